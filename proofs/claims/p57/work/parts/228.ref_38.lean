set_option maxHeartbeats 4000000 in
set_option maxRecDepth 100000 in
theorem tX7_firstOf (l : Launch) (dC : Nat → ClassId) (dI : Nat → Nat → Nat) (sz : Nat) (oM : Nat) (iM_thrown : Int32) (rM_tape : Nat) (iM_taped : Int32) (iM_size : Int32) (iM_at : Int32) (iM_end : Int32) (iM_token : Int32) (iM_whole : Int32) (iM_nameSize : Int32) (iM_fault : Int32) (iM_place : Int32) (iM_trouble : Int32) (rM_letters : Nat) (iM_failed : Int32) (iM_hasCourt : Int32) (rM_r : Nat) (fM_r : Nat → Int32) (kM_r : ClassId) (rM_fresh : Nat) (rM_told : Nat) (fM_told : Nat → Int32) (kM_told : ClassId) (rM_read : Nat) (rM_st : Nat) (fM_st : Nat → Int32) (kM_st : ClassId) (rM_undone : Nat) (rM_kept : Nat) (iM_undos : Int32) (iM_images : Int32) (rM_fresher : Nat) (iM_fresherSize : Int32) (iM_scale : Int32) (iM_night : Int32) (rM_heardRow : Nat) (fM_heardRow : Nat → Int32) (kM_heardRow : ClassId) (rM_cutRow : Nat) (fM_cutRow : Nat → Int32) (kM_cutRow : ClassId) (iM_breaths : Int32) (iM_cutMany : Int32) (iM_allBreaths : Int32) (rM_trial : Nat) (fM_trial : Nat → Int32) (kM_trial : ClassId) (rM_words : Nat) (iM_fewestBreaths : Int32) (iM_orderMany : Int32) (iM_orderSum : Int32) (iM_leastOrder : Int32) (rM_often : Nat) (iM_setMany : Int32) (iM_someOf : Int32) (iM_allOf : Int32) (iM_allWeight : Int64) (iM_enoughWeight : Int64) (iM_worthSum : Int64) (iM_firstRest : Int32) (iM_leastDrawn : Int32) (p0 : Int32) (b_iM_taped : 0 ≤ iM_taped.toInt ∧ iM_taped.toInt ≤ 900) (b_iM_size : 0 ≤ iM_size.toInt ∧ iM_size.toInt ≤ 900) (b_iM_end : 0 ≤ iM_end.toInt ∧ iM_end.toInt ≤ 900) (b_iM_failed : 0 ≤ iM_failed.toInt ∧ iM_failed.toInt ≤ 1) (b_iM_hasCourt : 0 ≤ iM_hasCourt.toInt ∧ iM_hasCourt.toInt ≤ 1) (b_iM_undos : 0 ≤ iM_undos.toInt ∧ iM_undos.toInt ≤ 16) (b_iM_images : 0 ≤ iM_images.toInt ∧ iM_images.toInt ≤ 3) (b_iM_scale : 1 ≤ iM_scale.toInt ∧ iM_scale.toInt ≤ 1296) (b_iM_breaths : 0 ≤ iM_breaths.toInt ∧ iM_breaths.toInt ≤ 399) (b_iM_cutMany : 0 ≤ iM_cutMany.toInt ∧ iM_cutMany.toInt ≤ 399) (r_R : ROk fM_r) (r_C : iM_hasCourt.toInt ≤ 0 ∨ (1 ≤ (fM_r 1).toInt ∧ 0 ≤ (fM_r 6).toInt ∧ (fM_r 6).toInt < (fM_r 1).toInt)) (r_st : RowOk fM_r fM_st) (r_told : RowOk fM_r fM_told) (r_wst : WorOk fM_st) (hk0 : 0 ≤ p0.toInt ∧ p0.toInt < (fM_r 1).toInt) (hth : 0 ≤ (fM_r 6).toInt ∧ (fM_r 6).toInt < (fM_r 1).toInt) : Met l yX7_firstOf (Cond.code yX7_firstOf cX7_firstOf 5 (some .int) :: wG) ({ frames := 22, cells := 0, slots := 0, locals := 624 }) (va_Pc [.ref oM, .int p0] (Pw dC dI sz [(oc7 oM iM_thrown rM_tape iM_taped iM_size iM_at iM_end iM_token iM_whole iM_nameSize iM_fault iM_place iM_trouble rM_letters iM_failed iM_hasCourt rM_r rM_fresh rM_told rM_read rM_st rM_undone rM_kept iM_undos iM_images rM_fresher iM_fresherSize iM_scale iM_night rM_heardRow rM_cutRow iM_breaths iM_cutMany iM_allBreaths rM_trial rM_words iM_fewestBreaths iM_orderMany iM_orderSum iM_leastOrder rM_often iM_setMany iM_someOf iM_allOf iM_allWeight iM_enoughWeight iM_worthSum iM_firstRest iM_leastDrawn), (arI rM_r kM_r 287 fM_r), (arI rM_told kM_told 90 fM_told), (arI rM_st kM_st 90 fM_st), (arI rM_heardRow kM_heardRow 400 fM_heardRow), (arI rM_cutRow kM_cutRow 800 fM_cutRow), (arI rM_trial kM_trial 90 fM_trial)] [(kM_r, .int), (kM_told, .int), (kM_st, .int), (kM_heardRow, .int), (kM_cutRow, .int), (kM_trial, .int)])) (va_Qi (fun (r : Int32) (u : Nat) => (True ∧ True) ∧ r = Int32.ofNat u) (fun (u : Nat) (t : State) => ∃ (niM_breaths : Int32) (niM_cutMany : Int32) (niM_fewestBreaths : Int32) (nfM_heardRow : Nat → Int32) (nfM_cutRow : Nat → Int32) (nfM_trial : Nat → Int32), (0 ≤ niM_breaths.toInt ∧ niM_breaths.toInt ≤ 399) ∧ (0 ≤ niM_cutMany.toInt ∧ niM_cutMany.toInt ≤ 399) ∧ (PX7_firstOf fM_r fM_told fM_st iM_scale fM_heardRow fM_cutRow iM_breaths iM_cutMany fM_trial p0 = (Int32.ofNat u, niM_breaths, niM_cutMany, niM_fewestBreaths, nfM_heardRow, nfM_cutRow, nfM_trial)) ∧ Bw dC dI (va_A [(oc7 oM iM_thrown rM_tape iM_taped iM_size iM_at iM_end iM_token iM_whole iM_nameSize iM_fault iM_place iM_trouble rM_letters iM_failed iM_hasCourt rM_r rM_fresh rM_told rM_read rM_st rM_undone rM_kept iM_undos iM_images rM_fresher iM_fresherSize iM_scale iM_night rM_heardRow rM_cutRow iM_breaths iM_cutMany iM_allBreaths rM_trial rM_words iM_fewestBreaths iM_orderMany iM_orderSum iM_leastOrder rM_often iM_setMany iM_someOf iM_allOf iM_allWeight iM_enoughWeight iM_worthSum iM_firstRest iM_leastDrawn), (arI rM_r kM_r 287 fM_r), (arI rM_told kM_told 90 fM_told), (arI rM_st kM_st 90 fM_st), (arI rM_heardRow kM_heardRow 400 fM_heardRow), (arI rM_cutRow kM_cutRow 800 fM_cutRow), (arI rM_trial kM_trial 90 fM_trial)] sz) [(oc7 oM iM_thrown rM_tape iM_taped iM_size iM_at iM_end iM_token iM_whole iM_nameSize iM_fault iM_place iM_trouble rM_letters iM_failed iM_hasCourt rM_r rM_fresh rM_told rM_read rM_st rM_undone rM_kept iM_undos iM_images rM_fresher iM_fresherSize iM_scale iM_night rM_heardRow rM_cutRow niM_breaths niM_cutMany iM_allBreaths rM_trial rM_words niM_fewestBreaths iM_orderMany iM_orderSum iM_leastOrder rM_often iM_setMany iM_someOf iM_allOf iM_allWeight iM_enoughWeight iM_worthSum iM_firstRest iM_leastDrawn), (arI rM_r kM_r 287 fM_r), (arI rM_told kM_told 90 fM_told), (arI rM_st kM_st 90 fM_st), (arI rM_heardRow kM_heardRow 400 nfM_heardRow), (arI rM_cutRow kM_cutRow 800 nfM_cutRow), (arI rM_trial kM_trial 90 nfM_trial)] [(kM_r, .int), (kM_told, .int), (kM_st, .int), (kM_heardRow, .int), (kM_cutRow, .int), (kM_trial, .int)] t) (va_A [(oc7 oM iM_thrown rM_tape iM_taped iM_size iM_at iM_end iM_token iM_whole iM_nameSize iM_fault iM_place iM_trouble rM_letters iM_failed iM_hasCourt rM_r rM_fresh rM_told rM_read rM_st rM_undone rM_kept iM_undos iM_images rM_fresher iM_fresherSize iM_scale iM_night rM_heardRow rM_cutRow iM_breaths iM_cutMany iM_allBreaths rM_trial rM_words iM_fewestBreaths iM_orderMany iM_orderSum iM_leastOrder rM_often iM_setMany iM_someOf iM_allOf iM_allWeight iM_enoughWeight iM_worthSum iM_firstRest iM_leastDrawn), (arI rM_r kM_r 287 fM_r), (arI rM_told kM_told 90 fM_told), (arI rM_st kM_st 90 fM_st), (arI rM_heardRow kM_heardRow 400 fM_heardRow), (arI rM_cutRow kM_cutRow 800 fM_cutRow), (arI rM_trial kM_trial 90 fM_trial)] sz)) 0 0 (va_A [(oc7 oM iM_thrown rM_tape iM_taped iM_size iM_at iM_end iM_token iM_whole iM_nameSize iM_fault iM_place iM_trouble rM_letters iM_failed iM_hasCourt rM_r rM_fresh rM_told rM_read rM_st rM_undone rM_kept iM_undos iM_images rM_fresher iM_fresherSize iM_scale iM_night rM_heardRow rM_cutRow iM_breaths iM_cutMany iM_allBreaths rM_trial rM_words iM_fewestBreaths iM_orderMany iM_orderSum iM_leastOrder rM_often iM_setMany iM_someOf iM_allOf iM_allWeight iM_enoughWeight iM_worthSum iM_firstRest iM_leastDrawn), (arI rM_r kM_r 287 fM_r), (arI rM_told kM_told 90 fM_told), (arI rM_st kM_st 90 fM_st), (arI rM_heardRow kM_heardRow 400 fM_heardRow), (arI rM_cutRow kM_cutRow 800 fM_cutRow), (arI rM_trial kM_trial 90 fM_trial)] sz) := by
  refine Met.ofW (cc := cX7_firstOf) (maxL := 5) (ret := (some .int)) (by decide) rfl ?_
  intro p e s m args below meth c s₁ B hml hv
  obtain ⟨rfl, hsz, hP, hK, hD0, hE⟩ := hv
  have hx := B.exec
  have hb := B.bytes
  have hr := B.returns
  have hts : ∀ w ∈ wG, w.before ([.ref oM, .int p0] : List Value).toArray s = true := fun w h => atoms_spec (ws := Cond.code yX7_firstOf cX7_firstOf 5 (some .int) :: wG) B.pre w (List.mem_cons_of_mem _ h)
  have hown : s.vm.findClass RX7 = some m.cls := findClass_of_methodNamed B.named
  have hlocks := B.notSynchronized
  subst hsz
  have hD := hD0.self (sz := s.heap.size)
  generalize hAe : va_A [(oc7 oM iM_thrown rM_tape iM_taped iM_size iM_at iM_end iM_token iM_whole iM_nameSize iM_fault iM_place iM_trouble rM_letters iM_failed iM_hasCourt rM_r rM_fresh rM_told rM_read rM_st rM_undone rM_kept iM_undos iM_images rM_fresher iM_fresherSize iM_scale iM_night rM_heardRow rM_cutRow iM_breaths iM_cutMany iM_allBreaths rM_trial rM_words iM_fewestBreaths iM_orderMany iM_orderSum iM_leastOrder rM_often iM_setMany iM_someOf iM_allOf iM_allWeight iM_enoughWeight iM_worthSum iM_firstRest iM_leastDrawn), (arI rM_r kM_r 287 fM_r), (arI rM_told kM_told 90 fM_told), (arI rM_st kM_st 90 fM_st), (arI rM_heardRow kM_heardRow 400 fM_heardRow), (arI rM_cutRow kM_cutRow 800 fM_cutRow), (arI rM_trial kM_trial 90 fM_trial)] s.heap.size = A at hD hE ⊢
  have hA : ∀ q : Nat, s.heap.size ≤ q → A q := fun q h => by rw [← hAe]; exact Or.inr h
  have hS : va_S A s.heap s.heap [] := va_S.rf
  have hl := lv_entry ([.ref oM, .int p0]) (n := 5) (Nat.le_of_ble_eq_true rfl)
  rw [lg_entry_eq]
  generalize (lg_sl ([.ref oM, .int p0]) ++ List.replicate (5 - (lg_sl ([.ref oM, .int p0])).length) Slot.unset).toArray = ls at hl ⊢
  have hl : lv_has ls 5 [(0, .ref oM), (1, .int p0)] := hl
  have hG := PX7_firstOf_eq fM_r fM_told fM_st iM_scale fM_heardRow fM_cutRow iM_breaths iM_cutMany fM_trial p0
  have s_slips := r_R.slips
  have s_nodes := r_R.nodes
  have s_uns := r_R.uns
  have q_p0 := ti_cl (x := p0) rfl (by omega)
  have mn_p0 := r_R.many (27 + p0.toNatClampNeg) (by omega) (by omega)
  have kn_p0 := r_R.kind (9 + p0.toNatClampNeg) (by omega) (by omega)
  have in_p0 := r_R.inner p0.toNatClampNeg (by omega)
  refine lv_bipush (v := (-2)) hx hb dX7_firstOf_0 (by decide) ?_
  refine lv_istore_n (lv' := [(2, .int (-2)), (0, .ref oM), (1, .int p0)]) hx hb dX7_firstOf_2 rfl hl (by decide) rfl (fun ls hl => ?_)
  refine lv_aload_n hx hb dX7_firstOf_3 rfl (lv_at hl 1 rfl) ?_
  refine lv_bipush (v := (-2)) hx hb dX7_firstOf_4 (by decide) ?_
  refine va_put (D := (dC, dI)) (ci := 7) (v := .int (-2)) (ty := .int) (C := RX7) (T := TX7) (N := 48) hx hb hts inX7 tyX7 tyX7_ok nmX7 hown hK hP hD hS 0 rfl rfl 35 (by decide) (hts _ wd_1031) (fun _ h9 => h9) rfl (by decide +kernel) rfl rfl (Nat.le_of_ble_eq_true rfl) dX7_firstOf_6 (fun H locs hP hD hS => ?_)
  obtain ⟨hP, hD⟩ := wl2 (ws' := [(oc7 oM iM_thrown rM_tape iM_taped iM_size iM_at iM_end iM_token iM_whole iM_nameSize iM_fault iM_place iM_trouble rM_letters iM_failed iM_hasCourt rM_r rM_fresh rM_told rM_read rM_st rM_undone rM_kept iM_undos iM_images rM_fresher iM_fresherSize iM_scale iM_night rM_heardRow rM_cutRow iM_breaths iM_cutMany iM_allBreaths rM_trial rM_words (-2) iM_orderMany iM_orderSum iM_leastOrder rM_often iM_setMany iM_someOf iM_allOf iM_allWeight iM_enoughWeight iM_worthSum iM_firstRest iM_leastDrawn), (arI rM_r kM_r 287 fM_r), (arI rM_told kM_told 90 fM_told), (arI rM_st kM_st 90 fM_st), (arI rM_heardRow kM_heardRow 400 fM_heardRow), (arI rM_cutRow kM_cutRow 800 fM_cutRow), (arI rM_trial kM_trial 90 fM_trial)]) hP hD rfl
  refine lv_iconst (v := 0) hx hb dX7_firstOf_9 (by decide) ?_
  refine lv_istore_n (lv' := [(3, .int 0), (2, .int (-2)), (0, .ref oM), (1, .int p0)]) hx hb dX7_firstOf_10 rfl hl (by decide) rfl (fun ls hl => ?_)
  have hl := lv_sub hl (l' := [(3, .int 0), (2, .int (-2)), (0, .ref oM), (1, .int p0)]) [0, 1, 2, 3] rfl
  have key_n_2067 : ∀ (n_2067 : Nat) (z_2059 : Int32) (z_2060 : Int32) (z_2061 : Int32) (z_2062 : Int32) (z_2063 : Int32) (f_2064 : Nat → Int32) (f_2065 : Nat → Int32) (f_2066 : Nat → Int32) (H : Heap) (locs : List Loc) (ls : Array Slot), (0 ≤ z_2061.toInt ∧ z_2061.toInt ≤ 399) → (0 ≤ z_2062.toInt ∧ z_2062.toInt ≤ 399) → (0 ≤ z_2059.toInt ∧ z_2059.toInt ≤ 4) → (4 - z_2059.toInt).toNat < n_2067 → (PX7_firstOf fM_r fM_told fM_st iM_scale fM_heardRow fM_cutRow iM_breaths iM_cutMany fM_trial p0 = HX7_firstOf_0 fM_r fM_told fM_st iM_scale p0 n_2067 z_2059 z_2060 z_2061 z_2062 z_2063 f_2064 f_2065 f_2066) → va_P (dC, dI) vwCl [(oc7 oM iM_thrown rM_tape iM_taped iM_size iM_at iM_end iM_token iM_whole iM_nameSize iM_fault iM_place iM_trouble rM_letters iM_failed iM_hasCourt rM_r rM_fresh rM_told rM_read rM_st rM_undone rM_kept iM_undos iM_images rM_fresher iM_fresherSize iM_scale iM_night rM_heardRow rM_cutRow z_2061 z_2062 iM_allBreaths rM_trial rM_words z_2063 iM_orderMany iM_orderSum iM_leastOrder rM_often iM_setMany iM_someOf iM_allOf iM_allWeight iM_enoughWeight iM_worthSum iM_firstRest iM_leastDrawn), (arI rM_r kM_r 287 fM_r), (arI rM_told kM_told 90 fM_told), (arI rM_st kM_st 90 fM_st), (arI rM_heardRow kM_heardRow 400 f_2064), (arI rM_cutRow kM_cutRow 800 f_2065), (arI rM_trial kM_trial 90 f_2066)] H → va_D A [(oc7 oM iM_thrown rM_tape iM_taped iM_size iM_at iM_end iM_token iM_whole iM_nameSize iM_fault iM_place iM_trouble rM_letters iM_failed iM_hasCourt rM_r rM_fresh rM_told rM_read rM_st rM_undone rM_kept iM_undos iM_images rM_fresher iM_fresherSize iM_scale iM_night rM_heardRow rM_cutRow z_2061 z_2062 iM_allBreaths rM_trial rM_words z_2063 iM_orderMany iM_orderSum iM_leastOrder rM_often iM_setMany iM_someOf iM_allOf iM_allWeight iM_enoughWeight iM_worthSum iM_firstRest iM_leastDrawn), (arI rM_r kM_r 287 fM_r), (arI rM_told kM_told 90 fM_told), (arI rM_st kM_st 90 fM_st), (arI rM_heardRow kM_heardRow 400 f_2064), (arI rM_cutRow kM_cutRow 800 f_2065), (arI rM_trial kM_trial 90 f_2066)] → va_S A s.heap H locs → lv_has ls 5 [(3, .int z_2059), (2, .int z_2060), (0, .ref oM), (1, .int p0)] → W p l e (headSpec (Cond.code yX7_firstOf cX7_firstOf 5 (some .int) :: wG) ({ frames := 22, cells := 0, slots := 0, locals := 624 })).room s m ([.ref oM, .int p0] : List Value).toArray below meth c H locs 0 0 (MQ below (va_Qi (fun (r : Int32) (u : Nat) => (True ∧ True) ∧ r = Int32.ofNat u) (fun (u : Nat) (t : State) => ∃ (niM_breaths : Int32) (niM_cutMany : Int32) (niM_fewestBreaths : Int32) (nfM_heardRow : Nat → Int32) (nfM_cutRow : Nat → Int32) (nfM_trial : Nat → Int32), (0 ≤ niM_breaths.toInt ∧ niM_breaths.toInt ≤ 399) ∧ (0 ≤ niM_cutMany.toInt ∧ niM_cutMany.toInt ≤ 399) ∧ (PX7_firstOf fM_r fM_told fM_st iM_scale fM_heardRow fM_cutRow iM_breaths iM_cutMany fM_trial p0 = (Int32.ofNat u, niM_breaths, niM_cutMany, niM_fewestBreaths, nfM_heardRow, nfM_cutRow, nfM_trial)) ∧ Bw dC dI A [(oc7 oM iM_thrown rM_tape iM_taped iM_size iM_at iM_end iM_token iM_whole iM_nameSize iM_fault iM_place iM_trouble rM_letters iM_failed iM_hasCourt rM_r rM_fresh rM_told rM_read rM_st rM_undone rM_kept iM_undos iM_images rM_fresher iM_fresherSize iM_scale iM_night rM_heardRow rM_cutRow niM_breaths niM_cutMany iM_allBreaths rM_trial rM_words niM_fewestBreaths iM_orderMany iM_orderSum iM_leastOrder rM_often iM_setMany iM_someOf iM_allOf iM_allWeight iM_enoughWeight iM_worthSum iM_firstRest iM_leastDrawn), (arI rM_r kM_r 287 fM_r), (arI rM_told kM_told 90 fM_told), (arI rM_st kM_st 90 fM_st), (arI rM_heardRow kM_heardRow 400 nfM_heardRow), (arI rM_cutRow kM_cutRow 800 nfM_cutRow), (arI rM_trial kM_trial 90 nfM_trial)] [(kM_r, .int), (kM_told, .int), (kM_st, .int), (kM_heardRow, .int), (kM_cutRow, .int), (kM_trial, .int)] t) A) ([.ref oM, .int p0] : List Value).toArray s 0 0 A) (F0 m 11 ls []) := by
    intro n_2067
    induction n_2067 with
    | zero => intro z_2059 z_2060 z_2061 z_2062 z_2063 f_2064 f_2065 f_2066 H locs ls b_z_2061 b_z_2062 hi0_n_2067 hm; exact absurd hm (by omega)
    | succ n_2067 ih_n_2067 =>
      intro z_2059 z_2060 z_2061 z_2062 z_2063 f_2064 f_2065 f_2066 H locs ls b_z_2061 b_z_2062 hi0_n_2067 hm hG hP hD hS hl
      have hG := hG.trans (HX7_firstOf_0_eq _ _ _ _ _ _ _ _ _ _ _ _ _ _)
      refine lv_iload_n hx hb dX7_firstOf_11 rfl (lv_at hl 0 rfl) ?_
      refine lv_aload_n hx hb dX7_firstOf_12 rfl (lv_at hl 2 rfl) ?_
      refine va_get (D := (dC, dI)) (ci := 7) (v := .ref rM_r) (C := RX7) (T := TX7) (N := 48) hx hb hts inX7 hown hK hP 0 rfl rfl 15 (by decide) (hts _ wd_155) (fun _ h9 => h9) rfl dX7_firstOf_13 ?_
      refine lv_bipush (v := 27) hx hb dX7_firstOf_16 (by decide) ?_
      refine lv_iload_n hx hb dX7_firstOf_18 rfl (lv_at hl 3 rfl) ?_
      refine lv_iadd hx hb dX7_firstOf_19 ?_
      refine lv_topi (fun x_2068 ex_2068 => ?_)
      have hG := hG.trans (lt_eq ex_2068)
      have vx_2068 : x_2068.toInt = p0.toInt + 27 := by have q := ti_add ex_2068 kc_27 rfl (by omega) (by omega); omega
      refine va_iald hx hb hK hP 1 0 rfl rfl (ti_in vx_2068 (by omega) (by omega)) dX7_firstOf_20 ?_
      refine lv_topi (fun x_2069 ex_2069 => ?_)
      have hG := hG.trans (lt_eq ex_2069)
      have kx_2069 : (fM_r x_2068.toNatClampNeg).toInt = x_2069.toInt := by rw [ex_2069]
      have cx_2069 : (fM_r (27 + p0.toNatClampNeg)).toInt = x_2069.toInt := by rw [show 27 + p0.toNatClampNeg = x_2068.toNatClampNeg from by have q9 := ti_cl (x := x_2068) vx_2068 (by omega); have q_p0 := ti_cl (x := p0) rfl (by omega); omega]; exact kx_2069
      have sx_2069 := r_R.many x_2068.toNatClampNeg (by have q9 := ti_cl (x := x_2068) vx_2068 (by omega); omega) (by have q9 := ti_cl (x := x_2068) vx_2068 (by omega); omega)
      refine lv_icmp_ge (tgt := 98) hx hb dX7_firstOf_21 (by decide) (fun c_2070 => ?_) (fun c_2070 => ?_)
      · skip
        have hG := hG.trans (if_pos c_2070)
        have gc_2070 := ti_le c_2070 rfl rfl
        refine lv_iload_n hx hb dX7_firstOf_98 rfl (lv_at hl 1 rfl) ?_
        exact W.iret hx hb hr (fun t ht hW => ⟨⟨_, (cI z_2060), rfl, ⟨⟨trivial, trivial⟩, (cI_of z_2060)⟩, ⟨z_2061, z_2062, z_2063, f_2064, f_2065, f_2066, b_z_2061, b_z_2062, (cI_tup hG), Bw.to (hP.sub [0, 1, 2, 3, 4, 5, 6] rfl) (hD.sub [0, 1, 2, 3, 4, 5, 6] (by decide) rfl) (hK.sub [0, 1, 2, 3, 4, 5] rfl) ht hW⟩⟩, hS.F ht⟩) hS.2.2 dX7_firstOf_99
      · skip
        have hG := hG.trans (if_neg c_2070)
        have gc_2070 := ti_nle c_2070 rfl rfl
        refine lv_aload_n hx hb dX7_firstOf_24 rfl (lv_at hl 2 rfl) ?_
        refine va_get (D := (dC, dI)) (ci := 7) (v := .ref rM_st) (C := RX7) (T := TX7) (N := 48) hx hb hts inX7 hown hK hP 0 rfl rfl 19 (by decide) (hts _ wd_159) (fun _ h9 => h9) rfl dX7_firstOf_25 ?_
        refine lv_iconst (v := 0) hx hb dX7_firstOf_28 (by decide) ?_
        refine lv_aload_n hx hb dX7_firstOf_29 rfl (lv_at hl 2 rfl) ?_
        refine va_get (D := (dC, dI)) (ci := 7) (v := .ref rM_trial) (C := RX7) (T := TX7) (N := 48) hx hb hts inX7 hown hK hP 0 rfl rfl 33 (by decide) (hts _ wd_167) (fun _ h9 => h9) rfl dX7_firstOf_30 ?_
        refine lv_iconst (v := 0) hx hb dX7_firstOf_33 (by decide) ?_
        refine lv_bipush (v := 90) hx hb dX7_firstOf_34 (by decide) ?_
        have hFc := va_free (wc := [(arI rM_st kM_st 90 fM_st), (arI rM_trial kM_trial 90 f_2066)]) hD hS hA [3, 6] rfl
        refine va_callv (va_runS (As := [.ref rM_st, .int 0, .ref rM_trial, .int 0, .int 90]) (rest := []) ⟨hx, hb, hml, hown, hts⟩ (tX7_copy_90_90 l dC dI _ rM_st fM_st kM_st rM_trial f_2066 kM_trial 0 0 90 (by first | omega | decide | assumption | (have q0 := kc_0; have q1 := kc_1; have q2 := kc_90; omega) | (intro h; exact absurd h (by decide))) (by first | omega | decide | assumption | (have q0 := kc_0; have q1 := kc_1; have q2 := kc_90; omega) | (intro h; exact absurd h (by decide))) (by first | omega | decide | assumption | (have q0 := kc_0; have q1 := kc_1; have q2 := kc_90; omega) | (intro h; exact absurd h (by decide)))) (va_cwS 5 hts (wd_S wd_475 wd_476 wd_5 (wd_c wd_477)) rfl rfl rfl (by decide +kernel) ⟨Nat.le_of_ble_eq_true rfl, Nat.le_of_ble_eq_true rfl⟩) ⟨Pw.fb, fun U hU hW => Pw.to (hP.sub [3, 6] rfl) (hD.sub [3, 6] (by decide) rfl) (hK.sub [2, 5] rfl) hE hS hFc hU hW⟩ rfl rfl hl.1 rfl (lv_room (Nat.le_of_ble_eq_true rfl)) dX7_firstOf_36 ⟨Nat.le_of_ble_eq_true rfl, Nat.le_of_ble_eq_true rfl⟩) hS (fun q _ h => hFc q h) hFc (fun u t H locs ht hvm hw hB hz1 hk1 hS => ?_)
        obtain ⟨f_2071, e_f_2071_0, hB⟩ := hB
        obtain ⟨hP, hD, hK⟩ := Bw.go (ws' := [(oc7 oM iM_thrown rM_tape iM_taped iM_size iM_at iM_end iM_token iM_whole iM_nameSize iM_fault iM_place iM_trouble rM_letters iM_failed iM_hasCourt rM_r rM_fresh rM_told rM_read rM_st rM_undone rM_kept iM_undos iM_images rM_fresher iM_fresherSize iM_scale iM_night rM_heardRow rM_cutRow z_2061 z_2062 iM_allBreaths rM_trial rM_words z_2063 iM_orderMany iM_orderSum iM_leastOrder rM_often iM_setMany iM_someOf iM_allOf iM_allWeight iM_enoughWeight iM_worthSum iM_firstRest iM_leastDrawn), (arI rM_r kM_r 287 fM_r), (arI rM_told kM_told 90 fM_told), (arI rM_heardRow kM_heardRow 400 f_2064), (arI rM_cutRow kM_cutRow 800 f_2065), (arI rM_st kM_st 90 fM_st), (arI rM_trial kM_trial 90 f_2071)]) (tys' := [(kM_r, .int), (kM_told, .int), (kM_heardRow, .int), (kM_cutRow, .int), (kM_st, .int), (kM_trial, .int)]) hB rfl ht hvm hP hD hK [3, 6] [0, 1, 2, 4, 5] rfl (by decide) (by decide) [0, 1, 3, 4] hk1 hFc rfl rfl rfl
        clear hz1 hk1 hvm ht hB
        have r_f_2071 : RowOk fM_r f_2071 := RowOk.copy r_R r_st e_f_2071_0
        have hG := hG.trans (lt_eq (CopyOk.fn e_f_2071_0).symm)
        refine lv_aload_n hx hb dX7_firstOf_39 rfl (lv_at hl 2 rfl) ?_
        refine lv_aload_n hx hb dX7_firstOf_40 rfl (lv_at hl 2 rfl) ?_
        refine va_get (D := (dC, dI)) (ci := 7) (v := .ref rM_trial) (C := RX7) (T := TX7) (N := 48) hx hb hts inX7 hown hK hP 0 rfl rfl 33 (by decide) (hts _ wd_167) (fun _ h9 => h9) rfl dX7_firstOf_41 ?_
        refine lv_iload_n hx hb dX7_firstOf_44 rfl (lv_at hl 3 rfl) ?_
        refine lv_iload_n hx hb dX7_firstOf_45 rfl (lv_at hl 0 rfl) ?_
        have hFc := va_free (wc := [(oc7 oM iM_thrown rM_tape iM_taped iM_size iM_at iM_end iM_token iM_whole iM_nameSize iM_fault iM_place iM_trouble rM_letters iM_failed iM_hasCourt rM_r rM_fresh rM_told rM_read rM_st rM_undone rM_kept iM_undos iM_images rM_fresher iM_fresherSize iM_scale iM_night rM_heardRow rM_cutRow z_2061 z_2062 iM_allBreaths rM_trial rM_words z_2063 iM_orderMany iM_orderSum iM_leastOrder rM_often iM_setMany iM_someOf iM_allOf iM_allWeight iM_enoughWeight iM_worthSum iM_firstRest iM_leastDrawn), (arI rM_r kM_r 287 fM_r), (arI rM_trial kM_trial 90 f_2071)]) hD hS hA [0, 1, 6] rfl
        refine va_callv (va_runV (As := [.ref rM_trial, .int p0, .int z_2059]) (rest := []) ⟨hx, hb, hml, hown, hts⟩ (tX7_frontOf l dC dI _ oM iM_thrown rM_tape iM_taped iM_size iM_at iM_end iM_token iM_whole iM_nameSize iM_fault iM_place iM_trouble rM_letters iM_failed iM_hasCourt rM_r fM_r kM_r rM_fresh rM_told rM_read rM_st rM_undone rM_kept iM_undos iM_images rM_fresher iM_fresherSize iM_scale iM_night rM_heardRow rM_cutRow z_2061 z_2062 iM_allBreaths rM_trial rM_words z_2063 iM_orderMany iM_orderSum iM_leastOrder rM_often iM_setMany iM_someOf iM_allOf iM_allWeight iM_enoughWeight iM_worthSum iM_firstRest iM_leastDrawn rM_trial f_2071 kM_trial p0 z_2059 (by first | omega | decide) (by first | omega | decide) (by first | omega | decide) (by first | omega | decide) (by first | omega | decide) (by first | omega | decide) (by first | omega | decide) (by first | omega | decide) (by first | exact b_z_2061 | omega | decide) (by first | exact b_z_2062 | omega | decide) (by assumption) (by assumption) (by assumption) (by first | omega | decide | assumption | (have q0 := kc_0; have q1 := kc_1; omega) | (intro h; exact absurd h (by decide))) (by first | omega | decide | assumption | (have q0 := kc_0; have q1 := kc_1; omega) | (intro h; exact absurd h (by decide)))) (cwV 3 hts (wd_V wd_1032 wd_1033 wd_1034 wd_5 (wd_c wd_1035)) rfl rfl rfl (by decide +kernel) ⟨Nat.le_of_ble_eq_true rfl, Nat.le_of_ble_eq_true rfl⟩) ⟨Pw.fb, va_recv hK hP (ci := 7) (q0 := 0) rfl rfl, fun U hU hW => Pw.to (hP.sub [0, 1, 6] rfl) (hD.sub [0, 1, 6] (by decide) rfl) (hK.sub [0, 5] rfl) hE hS hFc hU hW⟩ rfl rfl hl.1 rfl (lv_room (Nat.le_of_ble_eq_true rfl)) dX7_firstOf_46 ⟨Nat.le_of_ble_eq_true rfl, Nat.le_of_ble_eq_true rfl⟩) hS (fun q _ h => hFc q h) hFc (fun u t H locs ht hvm hw hB hz1 hk1 hS => ?_)
        obtain ⟨f_2072, e_f_2072_0, e_f_2072_1, e_f_2072_2, hB⟩ := hB
        obtain ⟨hP, hD, hK⟩ := Bw.go (ws' := [(arI rM_told kM_told 90 fM_told), (arI rM_heardRow kM_heardRow 400 f_2064), (arI rM_cutRow kM_cutRow 800 f_2065), (arI rM_st kM_st 90 fM_st), (oc7 oM iM_thrown rM_tape iM_taped iM_size iM_at iM_end iM_token iM_whole iM_nameSize iM_fault iM_place iM_trouble rM_letters iM_failed iM_hasCourt rM_r rM_fresh rM_told rM_read rM_st rM_undone rM_kept iM_undos iM_images rM_fresher iM_fresherSize iM_scale iM_night rM_heardRow rM_cutRow z_2061 z_2062 iM_allBreaths rM_trial rM_words z_2063 iM_orderMany iM_orderSum iM_leastOrder rM_often iM_setMany iM_someOf iM_allOf iM_allWeight iM_enoughWeight iM_worthSum iM_firstRest iM_leastDrawn), (arI rM_r kM_r 287 fM_r), (arI rM_trial kM_trial 90 f_2072)]) (tys' := [(kM_told, .int), (kM_heardRow, .int), (kM_cutRow, .int), (kM_st, .int), (kM_r, .int), (kM_trial, .int)]) hB rfl ht hvm hP hD hK [0, 1, 6] [2, 3, 4, 5] rfl (by decide) (by decide) [1, 2, 3, 4] hk1 hFc rfl rfl rfl
        clear hz1 hk1 hvm ht hB
        have hG := hG.trans (lt_eq e_f_2072_2.symm)
        refine lv_aload_n hx hb dX7_firstOf_49 rfl (lv_at hl 2 rfl) ?_
        refine lv_aload_n hx hb dX7_firstOf_50 rfl (lv_at hl 2 rfl) ?_
        refine va_get (D := (dC, dI)) (ci := 7) (v := .ref rM_trial) (C := RX7) (T := TX7) (N := 48) hx hb hts inX7 hown hK hP 4 rfl rfl 33 (by decide) (hts _ wd_167) (fun _ h9 => h9) rfl dX7_firstOf_51 ?_
        have hFc := va_free (wc := [(oc7 oM iM_thrown rM_tape iM_taped iM_size iM_at iM_end iM_token iM_whole iM_nameSize iM_fault iM_place iM_trouble rM_letters iM_failed iM_hasCourt rM_r rM_fresh rM_told rM_read rM_st rM_undone rM_kept iM_undos iM_images rM_fresher iM_fresherSize iM_scale iM_night rM_heardRow rM_cutRow z_2061 z_2062 iM_allBreaths rM_trial rM_words z_2063 iM_orderMany iM_orderSum iM_leastOrder rM_often iM_setMany iM_someOf iM_allOf iM_allWeight iM_enoughWeight iM_worthSum iM_firstRest iM_leastDrawn), (arI rM_r kM_r 287 fM_r), (arI rM_told kM_told 90 fM_told), (arI rM_heardRow kM_heardRow 400 f_2064), (arI rM_cutRow kM_cutRow 800 f_2065), (arI rM_trial kM_trial 90 f_2072)]) hD hS hA [4, 5, 0, 1, 2, 6] rfl
        refine va_calli (va_runV (As := [.ref rM_trial]) (rest := []) ⟨hx, hb, hml, hown, hts⟩ (tX7_breathsBy l dC dI _ oM iM_thrown rM_tape iM_taped iM_size iM_at iM_end iM_token iM_whole iM_nameSize iM_fault iM_place iM_trouble rM_letters iM_failed iM_hasCourt rM_r fM_r kM_r rM_fresh rM_told fM_told kM_told rM_read rM_st rM_undone rM_kept iM_undos iM_images rM_fresher iM_fresherSize iM_scale iM_night rM_heardRow f_2064 kM_heardRow rM_cutRow f_2065 kM_cutRow z_2061 z_2062 iM_allBreaths rM_trial rM_words z_2063 iM_orderMany iM_orderSum iM_leastOrder rM_often iM_setMany iM_someOf iM_allOf iM_allWeight iM_enoughWeight iM_worthSum iM_firstRest iM_leastDrawn rM_trial f_2072 kM_trial (by first | omega | decide) (by first | omega | decide) (by first | omega | decide) (by first | omega | decide) (by first | omega | decide) (by first | omega | decide) (by first | omega | decide) (by first | omega | decide) (by first | exact b_z_2061 | omega | decide) (by first | exact b_z_2062 | omega | decide) (by assumption) (by assumption) (by assumption) (by assumption) (by first | omega | decide | assumption | (have q0 := kc_0; have q1 := kc_1; omega) | (intro h; exact absurd h (by decide)))) (cwV 1 hts (wd_V wd_769 wd_770 wd_771 wd_5 (wd_c wd_772)) rfl rfl rfl (by decide +kernel) ⟨Nat.le_of_ble_eq_true rfl, Nat.le_of_ble_eq_true rfl⟩) ⟨Pw.fb, va_recv hK hP (ci := 7) (q0 := 4) rfl rfl, fun U hU hW => Pw.to (hP.sub [4, 5, 0, 1, 2, 6] rfl) (hD.sub [4, 5, 0, 1, 2, 6] (by decide) rfl) (hK.sub [4, 0, 1, 2, 5] rfl) hE hS hFc hU hW⟩ rfl rfl hl.1 rfl (lv_room (Nat.le_of_ble_eq_true rfl)) dX7_firstOf_54 ⟨Nat.le_of_ble_eq_true rfl, Nat.le_of_ble_eq_true rfl⟩) hS (fun q _ h => hFc q h) hFc (fun r u t H locs ht hvm hw hB hz1 hk1 hS => ?_)
        have hru9 := hw.2
        have hw := hw.1
        obtain ⟨x_2073, x_2074, f_2075, f_2076, b_x_2073, b_x_2074, e_x_2073_0, hB⟩ := hB
        obtain ⟨hP, hD, hK⟩ := Bw.go (ws' := [(arI rM_st kM_st 90 fM_st), (oc7 oM iM_thrown rM_tape iM_taped iM_size iM_at iM_end iM_token iM_whole iM_nameSize iM_fault iM_place iM_trouble rM_letters iM_failed iM_hasCourt rM_r rM_fresh rM_told rM_read rM_st rM_undone rM_kept iM_undos iM_images rM_fresher iM_fresherSize iM_scale iM_night rM_heardRow rM_cutRow x_2073 x_2074 iM_allBreaths rM_trial rM_words z_2063 iM_orderMany iM_orderSum iM_leastOrder rM_often iM_setMany iM_someOf iM_allOf iM_allWeight iM_enoughWeight iM_worthSum iM_firstRest iM_leastDrawn), (arI rM_r kM_r 287 fM_r), (arI rM_told kM_told 90 fM_told), (arI rM_heardRow kM_heardRow 400 f_2075), (arI rM_cutRow kM_cutRow 800 f_2076), (arI rM_trial kM_trial 90 f_2072)]) (tys' := [(kM_st, .int), (kM_r, .int), (kM_told, .int), (kM_heardRow, .int), (kM_cutRow, .int), (kM_trial, .int)]) hB rfl ht hvm hP hD hK [4, 5, 0, 1, 2, 6] [3] rfl (by decide) (by decide) [3] hk1 hFc rfl rfl rfl
        clear hz1 hk1 hvm ht hB
        rw [← hru9] at e_x_2073_0
        obtain ⟨x_2077, rfl⟩ : ∃ z, z = r := ⟨_, rfl⟩
        have hG := hG.trans (un5_eq e_x_2073_0)
        have ux_2077 := hw.2
        refine lv_istore (lv' := [(4, .int x_2077), (3, .int z_2059), (2, .int z_2060), (0, .ref oM), (1, .int p0)]) hx hb dX7_firstOf_57 hl (by decide) rfl (fun ls hl => ?_)
        refine lv_iload_n hx hb dX7_firstOf_59 rfl (lv_at hl 2 rfl) ?_
        refine lv_if_lt (tgt := 75) hx hb dX7_firstOf_60 (by decide) (fun c_2078 => ?_) (fun c_2078 => ?_)
        · skip
          have hG := hG.trans (if_pos c_2078)
          have gc_2078 := ti_lt c_2078 rfl kc_0
          refine lv_aload_n hx hb dX7_firstOf_75 rfl (lv_at hl 3 rfl) ?_
          refine va_get (D := (dC, dI)) (ci := 7) (v := .ref rM_st) (C := RX7) (T := TX7) (N := 48) hx hb hts inX7 hown hK hP 1 rfl rfl 19 (by decide) (hts _ wd_159) (fun _ h9 => h9) rfl dX7_firstOf_76 ?_
          refine lv_iconst (v := 4) hx hb dX7_firstOf_79 (by decide) ?_
          refine lv_iload_n hx hb dX7_firstOf_80 rfl (lv_at hl 4 rfl) ?_
          refine lv_imul hx hb dX7_firstOf_81 ?_
          refine lv_topi (fun x_2079 ex_2079 => ?_)
          have hG := hG.trans (lt_eq ex_2079)
          have vx_2079 : x_2079.toInt = 4 * p0.toInt := by have q := ti_mul ex_2079 kc_4 rfl (by omega) (by omega); omega
          refine lv_iload_n hx hb dX7_firstOf_82 rfl (lv_at hl 1 rfl) ?_
          refine lv_iadd hx hb dX7_firstOf_83 ?_
          refine lv_topi (fun x_2080 ex_2080 => ?_)
          have hG := hG.trans (lt_eq ex_2080)
          have vx_2080 : x_2080.toInt = 4 * p0.toInt + z_2059.toInt := by have q := ti_add ex_2080 vx_2079 rfl (by omega) (by omega); omega
          refine va_iald hx hb hK hP 0 0 rfl rfl (ti_in vx_2080 (by omega) (by omega)) dX7_firstOf_84 ?_
          refine lv_topi (fun x_2081 ex_2081 => ?_)
          have hG := hG.trans (lt_eq ex_2081)
          have kx_2081 : (fM_st x_2080.toNatClampNeg).toInt = x_2081.toInt := by rw [ex_2081]
          have cx_2081 : (fM_st (4 * p0.toNatClampNeg + z_2059.toNatClampNeg)).toInt = x_2081.toInt := by rw [show 4 * p0.toNatClampNeg + z_2059.toNatClampNeg = x_2080.toNatClampNeg from by have q9 := ti_cl (x := x_2080) vx_2080 (by omega); have q_p0 := ti_cl (x := p0) rfl (by omega); have q_z_2059 := ti_cl (x := z_2059) rfl (by omega); omega]; exact kx_2081
          have wx_2081 := r_st.lt p0.toNatClampNeg (z_2059.toNatClampNeg) (by have q_1 := ti_cl (x := p0) rfl (by omega); have q_2 := ti_cl (x := z_2059) rfl (by omega); omega) (by have q_1 := ti_cl (x := p0) rfl (by omega); have q_2 := ti_cl (x := z_2059) rfl (by omega); omega)
          have wx_2081 : 0 ≤ x_2081.toInt ∧ x_2081.toInt < p0.toInt := by have q_1 := ti_cl (x := p0) rfl (by omega); have q_2 := ti_cl (x := z_2059) rfl (by omega); have q_3 := cx_2081; rw [show 4 * p0.toNatClampNeg + (z_2059.toNatClampNeg) = 4 * p0.toNatClampNeg + z_2059.toNatClampNeg from by omega] at wx_2081; omega
          refine lv_istore_n (lv' := [(2, .int x_2081), (4, .int x_2077), (3, .int z_2059), (0, .ref oM), (1, .int p0)]) hx hb dX7_firstOf_85 rfl hl (by decide) rfl (fun ls hl => ?_)
          refine lv_aload_n hx hb dX7_firstOf_86 rfl (lv_at hl 3 rfl) ?_
          refine lv_iload hx hb dX7_firstOf_87 (lv_at hl 1 rfl) ?_
          refine va_put (D := (dC, dI)) (ci := 7) (v := .int x_2077) (ty := .int) (C := RX7) (T := TX7) (N := 48) hx hb hts inX7 tyX7 tyX7_ok nmX7 hown hK hP hD hS 1 rfl rfl 35 (by decide) (hts _ wd_1031) (fun _ h9 => h9) rfl (by decide +kernel) rfl rfl (Nat.le_of_ble_eq_true rfl) dX7_firstOf_89 (fun H locs hP hD hS => ?_)
          obtain ⟨hP, hD⟩ := wl2 (ws' := [(arI rM_st kM_st 90 fM_st), (oc7 oM iM_thrown rM_tape iM_taped iM_size iM_at iM_end iM_token iM_whole iM_nameSize iM_fault iM_place iM_trouble rM_letters iM_failed iM_hasCourt rM_r rM_fresh rM_told rM_read rM_st rM_undone rM_kept iM_undos iM_images rM_fresher iM_fresherSize iM_scale iM_night rM_heardRow rM_cutRow x_2073 x_2074 iM_allBreaths rM_trial rM_words x_2077 iM_orderMany iM_orderSum iM_leastOrder rM_often iM_setMany iM_someOf iM_allOf iM_allWeight iM_enoughWeight iM_worthSum iM_firstRest iM_leastDrawn), (arI rM_r kM_r 287 fM_r), (arI rM_told kM_told 90 fM_told), (arI rM_heardRow kM_heardRow 400 f_2075), (arI rM_cutRow kM_cutRow 800 f_2076), (arI rM_trial kM_trial 90 f_2072)]) hP hD rfl
          obtain ⟨x_2082, ex_2082⟩ : ∃ z : Int32, z = z_2059 + Int32.ofInt 1 := ⟨_, rfl⟩
          have hG := hG.trans (lt_eq ex_2082)
          have vx_2082 : x_2082.toInt = z_2059.toInt + 1 := by have q := ti_add (y := 1) ex_2082 rfl kc_1 (by omega) (by omega); omega
          refine lv_iinc (v := x_2082) (lv' := [(3, .int x_2082), (2, .int x_2081), (4, .int x_2077), (0, .ref oM), (1, .int p0)]) hx hb dX7_firstOf_92 hl (k := 2) rfl ex_2082.symm (by decide) rfl (fun ls hl => ?_)
          refine lv_goto (tgt := 11) hx hb dX7_firstOf_95 (by decide) ?_
          exact ih_n_2067 x_2082 x_2081 x_2073 x_2074 x_2077 f_2075 f_2076 f_2072 _ _ _ b_x_2073 b_x_2074 (by first | omega | decide | assumption) (by omega) hG (hP.sub [1, 2, 3, 0, 4, 5, 6] rfl) (hD.sub [1, 2, 3, 0, 4, 5, 6] (by decide) rfl) hS (lv_sub hl [0, 1, 3, 4] rfl)
        · skip
          have hG := hG.trans (if_neg c_2078)
          have gc_2078 := ti_nlt c_2078 rfl kc_0
          refine lv_iload hx hb dX7_firstOf_63 (lv_at hl 0 rfl) ?_
          refine lv_aload_n hx hb dX7_firstOf_65 rfl (lv_at hl 3 rfl) ?_
          refine va_get (D := (dC, dI)) (ci := 7) (v := .int z_2063) (C := RX7) (T := TX7) (N := 48) hx hb hts inX7 hown hK hP 1 rfl rfl 35 (by decide) (hts _ wd_1031) (fun _ h9 => h9) rfl dX7_firstOf_66 ?_
          refine lv_icmp_lt (tgt := 75) hx hb dX7_firstOf_69 (by decide) (fun c_2083 => ?_) (fun c_2083 => ?_)
          · skip
            have hG := hG.trans (if_pos c_2083)
            have gc_2083 := ti_lt c_2083 rfl rfl
            refine lv_aload_n hx hb dX7_firstOf_75 rfl (lv_at hl 3 rfl) ?_
            refine va_get (D := (dC, dI)) (ci := 7) (v := .ref rM_st) (C := RX7) (T := TX7) (N := 48) hx hb hts inX7 hown hK hP 1 rfl rfl 19 (by decide) (hts _ wd_159) (fun _ h9 => h9) rfl dX7_firstOf_76 ?_
            refine lv_iconst (v := 4) hx hb dX7_firstOf_79 (by decide) ?_
            refine lv_iload_n hx hb dX7_firstOf_80 rfl (lv_at hl 4 rfl) ?_
            refine lv_imul hx hb dX7_firstOf_81 ?_
            refine lv_topi (fun x_2084 ex_2084 => ?_)
            have hG := hG.trans (lt_eq ex_2084)
            have vx_2084 : x_2084.toInt = 4 * p0.toInt := by have q := ti_mul ex_2084 kc_4 rfl (by omega) (by omega); omega
            refine lv_iload_n hx hb dX7_firstOf_82 rfl (lv_at hl 1 rfl) ?_
            refine lv_iadd hx hb dX7_firstOf_83 ?_
            refine lv_topi (fun x_2085 ex_2085 => ?_)
            have hG := hG.trans (lt_eq ex_2085)
            have vx_2085 : x_2085.toInt = 4 * p0.toInt + z_2059.toInt := by have q := ti_add ex_2085 vx_2084 rfl (by omega) (by omega); omega
            refine va_iald hx hb hK hP 0 0 rfl rfl (ti_in vx_2085 (by omega) (by omega)) dX7_firstOf_84 ?_
            refine lv_topi (fun x_2086 ex_2086 => ?_)
            have hG := hG.trans (lt_eq ex_2086)
            have kx_2086 : (fM_st x_2085.toNatClampNeg).toInt = x_2086.toInt := by rw [ex_2086]
            have cx_2086 : (fM_st (4 * p0.toNatClampNeg + z_2059.toNatClampNeg)).toInt = x_2086.toInt := by rw [show 4 * p0.toNatClampNeg + z_2059.toNatClampNeg = x_2085.toNatClampNeg from by have q9 := ti_cl (x := x_2085) vx_2085 (by omega); have q_p0 := ti_cl (x := p0) rfl (by omega); have q_z_2059 := ti_cl (x := z_2059) rfl (by omega); omega]; exact kx_2086
            have wx_2086 := r_st.lt p0.toNatClampNeg (z_2059.toNatClampNeg) (by have q_1 := ti_cl (x := p0) rfl (by omega); have q_2 := ti_cl (x := z_2059) rfl (by omega); omega) (by have q_1 := ti_cl (x := p0) rfl (by omega); have q_2 := ti_cl (x := z_2059) rfl (by omega); omega)
            have wx_2086 : 0 ≤ x_2086.toInt ∧ x_2086.toInt < p0.toInt := by have q_1 := ti_cl (x := p0) rfl (by omega); have q_2 := ti_cl (x := z_2059) rfl (by omega); have q_3 := cx_2086; rw [show 4 * p0.toNatClampNeg + (z_2059.toNatClampNeg) = 4 * p0.toNatClampNeg + z_2059.toNatClampNeg from by omega] at wx_2086; omega
            refine lv_istore_n (lv' := [(2, .int x_2086), (4, .int x_2077), (3, .int z_2059), (0, .ref oM), (1, .int p0)]) hx hb dX7_firstOf_85 rfl hl (by decide) rfl (fun ls hl => ?_)
            refine lv_aload_n hx hb dX7_firstOf_86 rfl (lv_at hl 3 rfl) ?_
            refine lv_iload hx hb dX7_firstOf_87 (lv_at hl 1 rfl) ?_
            refine va_put (D := (dC, dI)) (ci := 7) (v := .int x_2077) (ty := .int) (C := RX7) (T := TX7) (N := 48) hx hb hts inX7 tyX7 tyX7_ok nmX7 hown hK hP hD hS 1 rfl rfl 35 (by decide) (hts _ wd_1031) (fun _ h9 => h9) rfl (by decide +kernel) rfl rfl (Nat.le_of_ble_eq_true rfl) dX7_firstOf_89 (fun H locs hP hD hS => ?_)
            obtain ⟨hP, hD⟩ := wl2 (ws' := [(arI rM_st kM_st 90 fM_st), (oc7 oM iM_thrown rM_tape iM_taped iM_size iM_at iM_end iM_token iM_whole iM_nameSize iM_fault iM_place iM_trouble rM_letters iM_failed iM_hasCourt rM_r rM_fresh rM_told rM_read rM_st rM_undone rM_kept iM_undos iM_images rM_fresher iM_fresherSize iM_scale iM_night rM_heardRow rM_cutRow x_2073 x_2074 iM_allBreaths rM_trial rM_words x_2077 iM_orderMany iM_orderSum iM_leastOrder rM_often iM_setMany iM_someOf iM_allOf iM_allWeight iM_enoughWeight iM_worthSum iM_firstRest iM_leastDrawn), (arI rM_r kM_r 287 fM_r), (arI rM_told kM_told 90 fM_told), (arI rM_heardRow kM_heardRow 400 f_2075), (arI rM_cutRow kM_cutRow 800 f_2076), (arI rM_trial kM_trial 90 f_2072)]) hP hD rfl
            obtain ⟨x_2087, ex_2087⟩ : ∃ z : Int32, z = z_2059 + Int32.ofInt 1 := ⟨_, rfl⟩
            have hG := hG.trans (lt_eq ex_2087)
            have vx_2087 : x_2087.toInt = z_2059.toInt + 1 := by have q := ti_add (y := 1) ex_2087 rfl kc_1 (by omega) (by omega); omega
            refine lv_iinc (v := x_2087) (lv' := [(3, .int x_2087), (2, .int x_2086), (4, .int x_2077), (0, .ref oM), (1, .int p0)]) hx hb dX7_firstOf_92 hl (k := 2) rfl ex_2087.symm (by decide) rfl (fun ls hl => ?_)
            refine lv_goto (tgt := 11) hx hb dX7_firstOf_95 (by decide) ?_
            exact ih_n_2067 x_2087 x_2086 x_2073 x_2074 x_2077 f_2075 f_2076 f_2072 _ _ _ b_x_2073 b_x_2074 (by first | omega | decide | assumption) (by omega) hG (hP.sub [1, 2, 3, 0, 4, 5, 6] rfl) (hD.sub [1, 2, 3, 0, 4, 5, 6] (by decide) rfl) hS (lv_sub hl [0, 1, 3, 4] rfl)
          · skip
            have hG := hG.trans (if_neg c_2083)
            have gc_2083 := ti_nlt c_2083 rfl rfl
            refine lv_goto (tgt := 92) hx hb dX7_firstOf_72 (by decide) ?_
            obtain ⟨x_2088, ex_2088⟩ : ∃ z : Int32, z = z_2059 + Int32.ofInt 1 := ⟨_, rfl⟩
            have hG := hG.trans (lt_eq ex_2088)
            have vx_2088 : x_2088.toInt = z_2059.toInt + 1 := by have q := ti_add (y := 1) ex_2088 rfl kc_1 (by omega) (by omega); omega
            refine lv_iinc (v := x_2088) (lv' := [(3, .int x_2088), (4, .int x_2077), (2, .int z_2060), (0, .ref oM), (1, .int p0)]) hx hb dX7_firstOf_92 hl (k := 1) rfl ex_2088.symm (by decide) rfl (fun ls hl => ?_)
            refine lv_goto (tgt := 11) hx hb dX7_firstOf_95 (by decide) ?_
            exact ih_n_2067 x_2088 z_2060 x_2073 x_2074 z_2063 f_2075 f_2076 f_2072 _ _ _ b_x_2073 b_x_2074 (by first | omega | decide | assumption) (by omega) hG (hP.sub [1, 2, 3, 0, 4, 5, 6] rfl) (hD.sub [1, 2, 3, 0, 4, 5, 6] (by decide) rfl) hS (lv_sub hl [0, 2, 3, 4] rfl)
  exact key_n_2067 (((4 - (0 : Int32).toInt).toNat) + 1) 0 (-2) iM_breaths iM_cutMany (-2) fM_heardRow fM_cutRow fM_trial _ _ _ (by omega) (by omega) (by first | omega | decide | assumption | (have q0 := kc_m2; have q1 := kc_0; have q2 := kc_1; omega)) (by omega) hG hP hD hS hl
set_option maxHeartbeats 4000000 in
set_option maxRecDepth 100000 in
theorem tX7_first (l : Launch) (dC : Nat → ClassId) (dI : Nat → Nat → Nat) (sz : Nat) (oM : Nat) (iM_thrown : Int32) (rM_tape : Nat) (iM_taped : Int32) (iM_size : Int32) (iM_at : Int32) (iM_end : Int32) (iM_token : Int32) (iM_whole : Int32) (iM_nameSize : Int32) (iM_fault : Int32) (iM_place : Int32) (iM_trouble : Int32) (rM_letters : Nat) (iM_failed : Int32) (iM_hasCourt : Int32) (rM_r : Nat) (fM_r : Nat → Int32) (kM_r : ClassId) (rM_fresh : Nat) (rM_told : Nat) (fM_told : Nat → Int32) (kM_told : ClassId) (rM_read : Nat) (rM_st : Nat) (fM_st : Nat → Int32) (kM_st : ClassId) (rM_undone : Nat) (rM_kept : Nat) (iM_undos : Int32) (iM_images : Int32) (rM_fresher : Nat) (iM_fresherSize : Int32) (iM_scale : Int32) (iM_night : Int32) (rM_heardRow : Nat) (fM_heardRow : Nat → Int32) (kM_heardRow : ClassId) (rM_cutRow : Nat) (fM_cutRow : Nat → Int32) (kM_cutRow : ClassId) (iM_breaths : Int32) (iM_cutMany : Int32) (iM_allBreaths : Int32) (rM_trial : Nat) (fM_trial : Nat → Int32) (kM_trial : ClassId) (rM_words : Nat) (iM_fewestBreaths : Int32) (iM_orderMany : Int32) (iM_orderSum : Int32) (iM_leastOrder : Int32) (rM_often : Nat) (iM_setMany : Int32) (iM_someOf : Int32) (iM_allOf : Int32) (iM_allWeight : Int64) (iM_enoughWeight : Int64) (iM_worthSum : Int64) (iM_firstRest : Int32) (iM_leastDrawn : Int32) (p0 : Int32) (b_iM_taped : 0 ≤ iM_taped.toInt ∧ iM_taped.toInt ≤ 900) (b_iM_size : 0 ≤ iM_size.toInt ∧ iM_size.toInt ≤ 900) (b_iM_end : 0 ≤ iM_end.toInt ∧ iM_end.toInt ≤ 900) (b_iM_failed : 0 ≤ iM_failed.toInt ∧ iM_failed.toInt ≤ 1) (b_iM_hasCourt : 0 ≤ iM_hasCourt.toInt ∧ iM_hasCourt.toInt ≤ 1) (b_iM_undos : 0 ≤ iM_undos.toInt ∧ iM_undos.toInt ≤ 16) (b_iM_images : 0 ≤ iM_images.toInt ∧ iM_images.toInt ≤ 3) (b_iM_scale : 1 ≤ iM_scale.toInt ∧ iM_scale.toInt ≤ 1296) (b_iM_breaths : 0 ≤ iM_breaths.toInt ∧ iM_breaths.toInt ≤ 399) (b_iM_cutMany : 0 ≤ iM_cutMany.toInt ∧ iM_cutMany.toInt ≤ 399) (r_R : ROk fM_r) (r_C : iM_hasCourt.toInt ≤ 0 ∨ (1 ≤ (fM_r 1).toInt ∧ 0 ≤ (fM_r 6).toInt ∧ (fM_r 6).toInt < (fM_r 1).toInt)) (r_st : RowOk fM_r fM_st) (r_told : RowOk fM_r fM_told) (r_wst : WorOk fM_st)  : Met l yX7_first (Cond.code yX7_first cX7_first 2 (some .int) :: wG) ({ frames := 23, cells := 0, slots := 0, locals := 648 }) (va_Pc [.ref oM, .int p0] (Pw dC dI sz [(oc7 oM iM_thrown rM_tape iM_taped iM_size iM_at iM_end iM_token iM_whole iM_nameSize iM_fault iM_place iM_trouble rM_letters iM_failed iM_hasCourt rM_r rM_fresh rM_told rM_read rM_st rM_undone rM_kept iM_undos iM_images rM_fresher iM_fresherSize iM_scale iM_night rM_heardRow rM_cutRow iM_breaths iM_cutMany iM_allBreaths rM_trial rM_words iM_fewestBreaths iM_orderMany iM_orderSum iM_leastOrder rM_often iM_setMany iM_someOf iM_allOf iM_allWeight iM_enoughWeight iM_worthSum iM_firstRest iM_leastDrawn), (arI rM_r kM_r 287 fM_r), (arI rM_told kM_told 90 fM_told), (arI rM_st kM_st 90 fM_st), (arI rM_heardRow kM_heardRow 400 fM_heardRow), (arI rM_cutRow kM_cutRow 800 fM_cutRow), (arI rM_trial kM_trial 90 fM_trial)] [(kM_r, .int), (kM_told, .int), (kM_st, .int), (kM_heardRow, .int), (kM_cutRow, .int), (kM_trial, .int)])) (va_Qi (fun (r : Int32) (u : Nat) => (True ∧ True) ∧ r = Int32.ofNat u) (fun (u : Nat) (t : State) => ∃ (niM_thrown : Int32) (niM_trouble : Int32) (niM_breaths : Int32) (niM_cutMany : Int32) (niM_fewestBreaths : Int32) (nfM_heardRow : Nat → Int32) (nfM_cutRow : Nat → Int32) (nfM_trial : Nat → Int32), (0 ≤ niM_breaths.toInt ∧ niM_breaths.toInt ≤ 399) ∧ (0 ≤ niM_cutMany.toInt ∧ niM_cutMany.toInt ≤ 399) ∧ (PX7_first iM_hasCourt fM_r fM_told fM_st iM_scale fM_heardRow fM_cutRow iM_breaths iM_cutMany fM_trial iM_fewestBreaths p0 = (Int32.ofNat u, niM_thrown, niM_trouble, niM_breaths, niM_cutMany, niM_fewestBreaths, nfM_heardRow, nfM_cutRow, nfM_trial)) ∧ Bw dC dI (va_A [(oc7 oM iM_thrown rM_tape iM_taped iM_size iM_at iM_end iM_token iM_whole iM_nameSize iM_fault iM_place iM_trouble rM_letters iM_failed iM_hasCourt rM_r rM_fresh rM_told rM_read rM_st rM_undone rM_kept iM_undos iM_images rM_fresher iM_fresherSize iM_scale iM_night rM_heardRow rM_cutRow iM_breaths iM_cutMany iM_allBreaths rM_trial rM_words iM_fewestBreaths iM_orderMany iM_orderSum iM_leastOrder rM_often iM_setMany iM_someOf iM_allOf iM_allWeight iM_enoughWeight iM_worthSum iM_firstRest iM_leastDrawn), (arI rM_r kM_r 287 fM_r), (arI rM_told kM_told 90 fM_told), (arI rM_st kM_st 90 fM_st), (arI rM_heardRow kM_heardRow 400 fM_heardRow), (arI rM_cutRow kM_cutRow 800 fM_cutRow), (arI rM_trial kM_trial 90 fM_trial)] sz) [(oc7 oM niM_thrown rM_tape iM_taped iM_size iM_at iM_end iM_token iM_whole iM_nameSize iM_fault iM_place niM_trouble rM_letters iM_failed iM_hasCourt rM_r rM_fresh rM_told rM_read rM_st rM_undone rM_kept iM_undos iM_images rM_fresher iM_fresherSize iM_scale iM_night rM_heardRow rM_cutRow niM_breaths niM_cutMany iM_allBreaths rM_trial rM_words niM_fewestBreaths iM_orderMany iM_orderSum iM_leastOrder rM_often iM_setMany iM_someOf iM_allOf iM_allWeight iM_enoughWeight iM_worthSum iM_firstRest iM_leastDrawn), (arI rM_r kM_r 287 fM_r), (arI rM_told kM_told 90 fM_told), (arI rM_st kM_st 90 fM_st), (arI rM_heardRow kM_heardRow 400 nfM_heardRow), (arI rM_cutRow kM_cutRow 800 nfM_cutRow), (arI rM_trial kM_trial 90 nfM_trial)] [(kM_r, .int), (kM_told, .int), (kM_st, .int), (kM_heardRow, .int), (kM_cutRow, .int), (kM_trial, .int)] t) (va_A [(oc7 oM iM_thrown rM_tape iM_taped iM_size iM_at iM_end iM_token iM_whole iM_nameSize iM_fault iM_place iM_trouble rM_letters iM_failed iM_hasCourt rM_r rM_fresh rM_told rM_read rM_st rM_undone rM_kept iM_undos iM_images rM_fresher iM_fresherSize iM_scale iM_night rM_heardRow rM_cutRow iM_breaths iM_cutMany iM_allBreaths rM_trial rM_words iM_fewestBreaths iM_orderMany iM_orderSum iM_leastOrder rM_often iM_setMany iM_someOf iM_allOf iM_allWeight iM_enoughWeight iM_worthSum iM_firstRest iM_leastDrawn), (arI rM_r kM_r 287 fM_r), (arI rM_told kM_told 90 fM_told), (arI rM_st kM_st 90 fM_st), (arI rM_heardRow kM_heardRow 400 fM_heardRow), (arI rM_cutRow kM_cutRow 800 fM_cutRow), (arI rM_trial kM_trial 90 fM_trial)] sz)) 0 0 (va_A [(oc7 oM iM_thrown rM_tape iM_taped iM_size iM_at iM_end iM_token iM_whole iM_nameSize iM_fault iM_place iM_trouble rM_letters iM_failed iM_hasCourt rM_r rM_fresh rM_told rM_read rM_st rM_undone rM_kept iM_undos iM_images rM_fresher iM_fresherSize iM_scale iM_night rM_heardRow rM_cutRow iM_breaths iM_cutMany iM_allBreaths rM_trial rM_words iM_fewestBreaths iM_orderMany iM_orderSum iM_leastOrder rM_often iM_setMany iM_someOf iM_allOf iM_allWeight iM_enoughWeight iM_worthSum iM_firstRest iM_leastDrawn), (arI rM_r kM_r 287 fM_r), (arI rM_told kM_told 90 fM_told), (arI rM_st kM_st 90 fM_st), (arI rM_heardRow kM_heardRow 400 fM_heardRow), (arI rM_cutRow kM_cutRow 800 fM_cutRow), (arI rM_trial kM_trial 90 fM_trial)] sz) := by
  refine Met.ofW (cc := cX7_first) (maxL := 2) (ret := (some .int)) (by decide) rfl ?_
  intro p e s m args below meth c s₁ B hml hv
  obtain ⟨rfl, hsz, hP, hK, hD0, hE⟩ := hv
  have hx := B.exec
  have hb := B.bytes
  have hr := B.returns
  have hts : ∀ w ∈ wG, w.before ([.ref oM, .int p0] : List Value).toArray s = true := fun w h => atoms_spec (ws := Cond.code yX7_first cX7_first 2 (some .int) :: wG) B.pre w (List.mem_cons_of_mem _ h)
  have hown : s.vm.findClass RX7 = some m.cls := findClass_of_methodNamed B.named
  have hlocks := B.notSynchronized
  subst hsz
  have hD := hD0.self (sz := s.heap.size)
  generalize hAe : va_A [(oc7 oM iM_thrown rM_tape iM_taped iM_size iM_at iM_end iM_token iM_whole iM_nameSize iM_fault iM_place iM_trouble rM_letters iM_failed iM_hasCourt rM_r rM_fresh rM_told rM_read rM_st rM_undone rM_kept iM_undos iM_images rM_fresher iM_fresherSize iM_scale iM_night rM_heardRow rM_cutRow iM_breaths iM_cutMany iM_allBreaths rM_trial rM_words iM_fewestBreaths iM_orderMany iM_orderSum iM_leastOrder rM_often iM_setMany iM_someOf iM_allOf iM_allWeight iM_enoughWeight iM_worthSum iM_firstRest iM_leastDrawn), (arI rM_r kM_r 287 fM_r), (arI rM_told kM_told 90 fM_told), (arI rM_st kM_st 90 fM_st), (arI rM_heardRow kM_heardRow 400 fM_heardRow), (arI rM_cutRow kM_cutRow 800 fM_cutRow), (arI rM_trial kM_trial 90 fM_trial)] s.heap.size = A at hD hE ⊢
  have hA : ∀ q : Nat, s.heap.size ≤ q → A q := fun q h => by rw [← hAe]; exact Or.inr h
  have hS : va_S A s.heap s.heap [] := va_S.rf
  have hl := lv_entry ([.ref oM, .int p0]) (n := 2) (Nat.le_of_ble_eq_true rfl)
  rw [lg_entry_eq]
  generalize (lg_sl ([.ref oM, .int p0]) ++ List.replicate (2 - (lg_sl ([.ref oM, .int p0])).length) Slot.unset).toArray = ls at hl ⊢
  have hl : lv_has ls 2 [(0, .ref oM), (1, .int p0)] := hl
  have hG := PX7_first_eq iM_hasCourt fM_r fM_told fM_st iM_scale fM_heardRow fM_cutRow iM_breaths iM_cutMany fM_trial iM_fewestBreaths p0
  have s_slips := r_R.slips
  have s_nodes := r_R.nodes
  have s_uns := r_R.uns
  refine lv_aload_n hx hb dX7_first_0 rfl (lv_at hl 0 rfl) ?_
  have hFc := va_free (wc := [(oc7 oM iM_thrown rM_tape iM_taped iM_size iM_at iM_end iM_token iM_whole iM_nameSize iM_fault iM_place iM_trouble rM_letters iM_failed iM_hasCourt rM_r rM_fresh rM_told rM_read rM_st rM_undone rM_kept iM_undos iM_images rM_fresher iM_fresherSize iM_scale iM_night rM_heardRow rM_cutRow iM_breaths iM_cutMany iM_allBreaths rM_trial rM_words iM_fewestBreaths iM_orderMany iM_orderSum iM_leastOrder rM_often iM_setMany iM_someOf iM_allOf iM_allWeight iM_enoughWeight iM_worthSum iM_firstRest iM_leastDrawn)]) hD hS hA [0] rfl
  refine va_callv (va_runV (As := []) (rest := []) ⟨hx, hb, hml, hown, hts⟩ (tX7_good l dC dI _ oM iM_thrown rM_tape iM_taped iM_size iM_at iM_end iM_token iM_whole iM_nameSize iM_fault iM_place iM_trouble rM_letters iM_failed iM_hasCourt rM_r rM_fresh rM_told rM_read rM_st rM_undone rM_kept iM_undos iM_images rM_fresher iM_fresherSize iM_scale iM_night rM_heardRow rM_cutRow iM_breaths iM_cutMany iM_allBreaths rM_trial rM_words iM_fewestBreaths iM_orderMany iM_orderSum iM_leastOrder rM_often iM_setMany iM_someOf iM_allOf iM_allWeight iM_enoughWeight iM_worthSum iM_firstRest iM_leastDrawn (by first | omega | decide) (by first | omega | decide) (by first | omega | decide) (by first | omega | decide) (by first | omega | decide) (by first | omega | decide) (by first | omega | decide) (by first | omega | decide) (by first | omega | decide) (by first | omega | decide)) (cwV 0 hts (wd_V wd_388 wd_389 wd_390 wd_5 (wd_c wd_391)) rfl rfl rfl (by decide +kernel) ⟨Nat.le_of_ble_eq_true rfl, Nat.le_of_ble_eq_true rfl⟩) ⟨Pw.fb, va_recv hK hP (ci := 7) (q0 := 0) rfl rfl, fun U hU hW => Pw.to (hP.sub [0] rfl) (hD.sub [0] (by decide) rfl) (hK.sub [] rfl) hE hS hFc hU hW⟩ rfl rfl hl.1 rfl (lv_room (Nat.le_of_ble_eq_true rfl)) dX7_first_1 ⟨Nat.le_of_ble_eq_true rfl, Nat.le_of_ble_eq_true rfl⟩) hS (fun q _ h => hFc q h) hFc (fun u t H locs ht hvm hw hB hz1 hk1 hS => ?_)
  obtain ⟨x_2103, x_2104, b_x_2103, b_x_2104, e_x_2103_0, hB⟩ := hB
  obtain ⟨hP, hD, hK⟩ := Bw.go (ws' := [(arI rM_r kM_r 287 fM_r), (arI rM_told kM_told 90 fM_told), (arI rM_st kM_st 90 fM_st), (arI rM_heardRow kM_heardRow 400 fM_heardRow), (arI rM_cutRow kM_cutRow 800 fM_cutRow), (arI rM_trial kM_trial 90 fM_trial), (oc7 oM x_2103 rM_tape iM_taped iM_size iM_at iM_end iM_token iM_whole iM_nameSize iM_fault iM_place x_2104 rM_letters iM_failed iM_hasCourt rM_r rM_fresh rM_told rM_read rM_st rM_undone rM_kept iM_undos iM_images rM_fresher iM_fresherSize iM_scale iM_night rM_heardRow rM_cutRow iM_breaths iM_cutMany iM_allBreaths rM_trial rM_words iM_fewestBreaths iM_orderMany iM_orderSum iM_leastOrder rM_often iM_setMany iM_someOf iM_allOf iM_allWeight iM_enoughWeight iM_worthSum iM_firstRest iM_leastDrawn)]) (tys' := [(kM_r, .int), (kM_told, .int), (kM_st, .int), (kM_heardRow, .int), (kM_cutRow, .int), (kM_trial, .int)]) hB rfl ht hvm hP hD hK [0] [1, 2, 3, 4, 5, 6] rfl (by decide) (by decide) [0, 1, 2, 3, 4, 5] hk1 hFc rfl rfl rfl
  clear hz1 hk1 hvm ht hB
  have hG := hG.trans (un2_eq e_x_2103_0)
  refine lv_aload_n hx hb dX7_first_4 rfl (lv_at hl 0 rfl) ?_
  refine lv_iload_n hx hb dX7_first_5 rfl (lv_at hl 1 rfl) ?_
  have hFc := va_free (wc := [(oc7 oM x_2103 rM_tape iM_taped iM_size iM_at iM_end iM_token iM_whole iM_nameSize iM_fault iM_place x_2104 rM_letters iM_failed iM_hasCourt rM_r rM_fresh rM_told rM_read rM_st rM_undone rM_kept iM_undos iM_images rM_fresher iM_fresherSize iM_scale iM_night rM_heardRow rM_cutRow iM_breaths iM_cutMany iM_allBreaths rM_trial rM_words iM_fewestBreaths iM_orderMany iM_orderSum iM_leastOrder rM_often iM_setMany iM_someOf iM_allOf iM_allWeight iM_enoughWeight iM_worthSum iM_firstRest iM_leastDrawn), (arI rM_r kM_r 287 fM_r)]) hD hS hA [6, 0] rfl
  refine va_calli (va_runV (As := [.int p0]) (rest := []) ⟨hx, hb, hml, hown, hts⟩ (tX7_isNode l dC dI _ oM x_2103 rM_tape iM_taped iM_size iM_at iM_end iM_token iM_whole iM_nameSize iM_fault iM_place x_2104 rM_letters iM_failed iM_hasCourt rM_r fM_r kM_r rM_fresh rM_told rM_read rM_st rM_undone rM_kept iM_undos iM_images rM_fresher iM_fresherSize iM_scale iM_night rM_heardRow rM_cutRow iM_breaths iM_cutMany iM_allBreaths rM_trial rM_words iM_fewestBreaths iM_orderMany iM_orderSum iM_leastOrder rM_often iM_setMany iM_someOf iM_allOf iM_allWeight iM_enoughWeight iM_worthSum iM_firstRest iM_leastDrawn p0 (by first | omega | decide) (by first | omega | decide) (by first | omega | decide) (by first | omega | decide) (by first | omega | decide) (by first | omega | decide) (by first | omega | decide) (by first | omega | decide) (by first | omega | decide) (by first | omega | decide) (by assumption) (by assumption)) (cwV 1 hts (wd_V wd_544 wd_545 wd_546 wd_5 (wd_c wd_547)) rfl rfl rfl (by decide +kernel) ⟨Nat.le_of_ble_eq_true rfl, Nat.le_of_ble_eq_true rfl⟩) ⟨Pw.fb, va_recv hK hP (ci := 7) (q0 := 6) rfl rfl, fun U hU hW => Pw.to (hP.sub [6, 0] rfl) (hD.sub [6, 0] (by decide) rfl) (hK.sub [0] rfl) hE hS hFc hU hW⟩ rfl rfl hl.1 rfl (lv_room (Nat.le_of_ble_eq_true rfl)) dX7_first_6 ⟨Nat.le_of_ble_eq_true rfl, Nat.le_of_ble_eq_true rfl⟩) hS (fun q _ h => hFc q h) hFc (fun r u t H locs ht hvm hw hB hz1 hk1 hS => ?_)
  have hru9 := hw.2
  have hw := hw.1
  obtain ⟨hP, hD, hK⟩ := Bw.go (ws' := [(arI rM_told kM_told 90 fM_told), (arI rM_st kM_st 90 fM_st), (arI rM_heardRow kM_heardRow 400 fM_heardRow), (arI rM_cutRow kM_cutRow 800 fM_cutRow), (arI rM_trial kM_trial 90 fM_trial), (oc7 oM x_2103 rM_tape iM_taped iM_size iM_at iM_end iM_token iM_whole iM_nameSize iM_fault iM_place x_2104 rM_letters iM_failed iM_hasCourt rM_r rM_fresh rM_told rM_read rM_st rM_undone rM_kept iM_undos iM_images rM_fresher iM_fresherSize iM_scale iM_night rM_heardRow rM_cutRow iM_breaths iM_cutMany iM_allBreaths rM_trial rM_words iM_fewestBreaths iM_orderMany iM_orderSum iM_leastOrder rM_often iM_setMany iM_someOf iM_allOf iM_allWeight iM_enoughWeight iM_worthSum iM_firstRest iM_leastDrawn), (arI rM_r kM_r 287 fM_r)]) (tys' := [(kM_told, .int), (kM_st, .int), (kM_heardRow, .int), (kM_cutRow, .int), (kM_trial, .int), (kM_r, .int)]) hB rfl ht hvm hP hD hK [6, 0] [1, 2, 3, 4, 5] rfl (by decide) (by decide) [1, 2, 3, 4, 5] hk1 hFc rfl rfl rfl
  clear hz1 hk1 hvm ht hB
  rcases hw.2 with ⟨rfl, hc_2105⟩ | ⟨rfl, hc_2105⟩
  · skip
    have hG := hG.trans (lt_eq hru9.symm)
    have hG := hG.trans (if_pos rfl)
    refine lv_if_eq (tgt := 20) hx hb dX7_first_9 (by decide) (fun c => absurd c (by decide)) (fun _ => ?_)
    refine lv_aload_n hx hb dX7_first_12 rfl (lv_at hl 0 rfl) ?_
    refine lv_iload_n hx hb dX7_first_13 rfl (lv_at hl 1 rfl) ?_
    have hFc := va_free (wc := [(oc7 oM x_2103 rM_tape iM_taped iM_size iM_at iM_end iM_token iM_whole iM_nameSize iM_fault iM_place x_2104 rM_letters iM_failed iM_hasCourt rM_r rM_fresh rM_told rM_read rM_st rM_undone rM_kept iM_undos iM_images rM_fresher iM_fresherSize iM_scale iM_night rM_heardRow rM_cutRow iM_breaths iM_cutMany iM_allBreaths rM_trial rM_words iM_fewestBreaths iM_orderMany iM_orderSum iM_leastOrder rM_often iM_setMany iM_someOf iM_allOf iM_allWeight iM_enoughWeight iM_worthSum iM_firstRest iM_leastDrawn), (arI rM_r kM_r 287 fM_r), (arI rM_told kM_told 90 fM_told), (arI rM_st kM_st 90 fM_st), (arI rM_heardRow kM_heardRow 400 fM_heardRow), (arI rM_cutRow kM_cutRow 800 fM_cutRow), (arI rM_trial kM_trial 90 fM_trial)]) hD hS hA [5, 6, 0, 1, 2, 3, 4] rfl
    refine va_calli (va_runV (As := [.int p0]) (rest := []) ⟨hx, hb, hml, hown, hts⟩ (tX7_firstOf l dC dI _ oM x_2103 rM_tape iM_taped iM_size iM_at iM_end iM_token iM_whole iM_nameSize iM_fault iM_place x_2104 rM_letters iM_failed iM_hasCourt rM_r fM_r kM_r rM_fresh rM_told fM_told kM_told rM_read rM_st fM_st kM_st rM_undone rM_kept iM_undos iM_images rM_fresher iM_fresherSize iM_scale iM_night rM_heardRow fM_heardRow kM_heardRow rM_cutRow fM_cutRow kM_cutRow iM_breaths iM_cutMany iM_allBreaths rM_trial fM_trial kM_trial rM_words iM_fewestBreaths iM_orderMany iM_orderSum iM_leastOrder rM_often iM_setMany iM_someOf iM_allOf iM_allWeight iM_enoughWeight iM_worthSum iM_firstRest iM_leastDrawn p0 (by first | omega | decide) (by first | omega | decide) (by first | omega | decide) (by first | omega | decide) (by first | omega | decide) (by first | omega | decide) (by first | omega | decide) (by first | omega | decide) (by first | omega | decide) (by first | omega | decide) (by assumption) (by assumption) (by assumption) (by assumption) (by assumption) (by first | omega | decide | assumption | (have q0 := kc_0; have q1 := kc_1; omega) | (intro h; exact absurd h (by decide))) (by first | omega | decide | assumption | (have q0 := kc_0; have q1 := kc_1; omega) | (intro h; exact absurd h (by decide)))) (cwV 1 hts (wd_V wd_1027 wd_1028 wd_1029 wd_5 (wd_c wd_1030)) rfl rfl rfl (by decide +kernel) ⟨Nat.le_of_ble_eq_true rfl, Nat.le_of_ble_eq_true rfl⟩) ⟨Pw.fb, va_recv hK hP (ci := 7) (q0 := 5) rfl rfl, fun U hU hW => Pw.to (hP.sub [5, 6, 0, 1, 2, 3, 4] rfl) (hD.sub [5, 6, 0, 1, 2, 3, 4] (by decide) rfl) (hK.sub [5, 0, 1, 2, 3, 4] rfl) hE hS hFc hU hW⟩ rfl rfl hl.1 rfl (lv_room (Nat.le_of_ble_eq_true rfl)) dX7_first_14 ⟨Nat.le_of_ble_eq_true rfl, Nat.le_of_ble_eq_true rfl⟩) hS (fun q _ h => hFc q h) hFc (fun r u t H locs ht hvm hw hB hz1 hk1 hS => ?_)
    have hru9 := hw.2
    have hw := hw.1
    obtain ⟨x_2108, x_2109, x_2110, f_2111, f_2112, f_2113, b_x_2108, b_x_2109, e_x_2108_0, hB⟩ := hB
    obtain ⟨hP, hD, hK⟩ := Bw.go (ws' := [(oc7 oM x_2103 rM_tape iM_taped iM_size iM_at iM_end iM_token iM_whole iM_nameSize iM_fault iM_place x_2104 rM_letters iM_failed iM_hasCourt rM_r rM_fresh rM_told rM_read rM_st rM_undone rM_kept iM_undos iM_images rM_fresher iM_fresherSize iM_scale iM_night rM_heardRow rM_cutRow x_2108 x_2109 iM_allBreaths rM_trial rM_words x_2110 iM_orderMany iM_orderSum iM_leastOrder rM_often iM_setMany iM_someOf iM_allOf iM_allWeight iM_enoughWeight iM_worthSum iM_firstRest iM_leastDrawn), (arI rM_r kM_r 287 fM_r), (arI rM_told kM_told 90 fM_told), (arI rM_st kM_st 90 fM_st), (arI rM_heardRow kM_heardRow 400 f_2111), (arI rM_cutRow kM_cutRow 800 f_2112), (arI rM_trial kM_trial 90 f_2113)]) (tys' := [(kM_r, .int), (kM_told, .int), (kM_st, .int), (kM_heardRow, .int), (kM_cutRow, .int), (kM_trial, .int)]) hB rfl ht hvm hP hD hK [5, 6, 0, 1, 2, 3, 4] [] rfl (by decide) (by decide) [] hk1 hFc rfl rfl rfl
    clear hz1 hk1 hvm ht hB
    rw [← hru9] at e_x_2108_0
    obtain ⟨x_2114, rfl⟩ : ∃ z, z = r := ⟨_, rfl⟩
    have hG := hG.trans (un7_eq e_x_2108_0)
    refine lv_goto (tgt := 25) hx hb dX7_first_17 (by decide) ?_
    exact W.iret hx hb hr (fun t ht hW => ⟨⟨_, (cI x_2114), rfl, ⟨⟨trivial, trivial⟩, (cI_of x_2114)⟩, ⟨x_2103, x_2104, x_2108, x_2109, x_2110, f_2111, f_2112, f_2113, b_x_2108, b_x_2109, (cI_tup hG), Bw.to (hP.sub [0, 1, 2, 3, 4, 5, 6] rfl) (hD.sub [0, 1, 2, 3, 4, 5, 6] (by decide) rfl) (hK.sub [0, 1, 2, 3, 4, 5] rfl) ht hW⟩⟩, hS.F ht⟩) hS.2.2 dX7_first_25
  · skip
    have hG := hG.trans (lt_eq hru9.symm)
    have hG := hG.trans (if_neg (by decide))
    refine lv_if_eq (tgt := 20) hx hb dX7_first_9 (by decide) (fun _ => ?_) (fun c => absurd c (by decide))
    refine lv_aload_n hx hb dX7_first_20 rfl (lv_at hl 0 rfl) ?_
    refine lv_iconst (v := 1) hx hb dX7_first_21 (by decide) ?_
    have hFc := va_free (wc := [(oc7 oM x_2103 rM_tape iM_taped iM_size iM_at iM_end iM_token iM_whole iM_nameSize iM_fault iM_place x_2104 rM_letters iM_failed iM_hasCourt rM_r rM_fresh rM_told rM_read rM_st rM_undone rM_kept iM_undos iM_images rM_fresher iM_fresherSize iM_scale iM_night rM_heardRow rM_cutRow iM_breaths iM_cutMany iM_allBreaths rM_trial rM_words iM_fewestBreaths iM_orderMany iM_orderSum iM_leastOrder rM_often iM_setMany iM_someOf iM_allOf iM_allWeight iM_enoughWeight iM_worthSum iM_firstRest iM_leastDrawn)]) hD hS hA [5] rfl
    refine va_calli (va_runV (As := [.int 1]) (rest := []) ⟨hx, hb, hml, hown, hts⟩ (tX7_no l dC dI _ oM x_2103 rM_tape iM_taped iM_size iM_at iM_end iM_token iM_whole iM_nameSize iM_fault iM_place x_2104 rM_letters iM_failed iM_hasCourt rM_r rM_fresh rM_told rM_read rM_st rM_undone rM_kept iM_undos iM_images rM_fresher iM_fresherSize iM_scale iM_night rM_heardRow rM_cutRow iM_breaths iM_cutMany iM_allBreaths rM_trial rM_words iM_fewestBreaths iM_orderMany iM_orderSum iM_leastOrder rM_often iM_setMany iM_someOf iM_allOf iM_allWeight iM_enoughWeight iM_worthSum iM_firstRest iM_leastDrawn 1 (by first | omega | decide) (by first | omega | decide) (by first | omega | decide) (by first | omega | decide) (by first | omega | decide) (by first | omega | decide) (by first | omega | decide) (by first | omega | decide) (by first | omega | decide) (by first | omega | decide)) (cwV 1 hts (wd_V wd_396 wd_397 wd_398 wd_5 (wd_c wd_399)) rfl rfl rfl (by decide +kernel) ⟨Nat.le_of_ble_eq_true rfl, Nat.le_of_ble_eq_true rfl⟩) ⟨Pw.fb, va_recv hK hP (ci := 7) (q0 := 5) rfl rfl, fun U hU hW => Pw.to (hP.sub [5] rfl) (hD.sub [5] (by decide) rfl) (hK.sub [] rfl) hE hS hFc hU hW⟩ rfl rfl hl.1 rfl (lv_room (Nat.le_of_ble_eq_true rfl)) dX7_first_22 ⟨Nat.le_of_ble_eq_true rfl, Nat.le_of_ble_eq_true rfl⟩) hS (fun q _ h => hFc q h) hFc (fun r u t H locs ht hvm hw hB hz1 hk1 hS => ?_)
    have hru9 := hw.2
    have hw := hw.1
    obtain ⟨x_2116, e_x_2116_0, hB⟩ := hB
    obtain ⟨hP, hD, hK⟩ := Bw.go (ws' := [(arI rM_told kM_told 90 fM_told), (arI rM_st kM_st 90 fM_st), (arI rM_heardRow kM_heardRow 400 fM_heardRow), (arI rM_cutRow kM_cutRow 800 fM_cutRow), (arI rM_trial kM_trial 90 fM_trial), (arI rM_r kM_r 287 fM_r), (oc7 oM x_2103 rM_tape iM_taped iM_size iM_at iM_end iM_token iM_whole iM_nameSize iM_fault iM_place x_2116 rM_letters iM_failed iM_hasCourt rM_r rM_fresh rM_told rM_read rM_st rM_undone rM_kept iM_undos iM_images rM_fresher iM_fresherSize iM_scale iM_night rM_heardRow rM_cutRow iM_breaths iM_cutMany iM_allBreaths rM_trial rM_words iM_fewestBreaths iM_orderMany iM_orderSum iM_leastOrder rM_often iM_setMany iM_someOf iM_allOf iM_allWeight iM_enoughWeight iM_worthSum iM_firstRest iM_leastDrawn)]) (tys' := [(kM_told, .int), (kM_st, .int), (kM_heardRow, .int), (kM_cutRow, .int), (kM_trial, .int), (kM_r, .int)]) hB rfl ht hvm hP hD hK [5] [0, 1, 2, 3, 4, 6] rfl (by decide) (by decide) [0, 1, 2, 3, 4, 5] hk1 hFc rfl rfl rfl
    clear hz1 hk1 hvm ht hB
    rw [← hru9] at e_x_2116_0
    obtain ⟨x_2117, rfl⟩ : ∃ z, z = r := ⟨_, rfl⟩
    have hG := hG.trans (un2_eq e_x_2116_0)
    exact W.iret hx hb hr (fun t ht hW => ⟨⟨_, (cI x_2117), rfl, ⟨⟨trivial, trivial⟩, (cI_of x_2117)⟩, ⟨x_2103, x_2116, iM_breaths, iM_cutMany, iM_fewestBreaths, fM_heardRow, fM_cutRow, fM_trial, (by omega), (by omega), (cI_tup hG), Bw.to (hP.sub [6, 5, 0, 1, 2, 3, 4] rfl) (hD.sub [6, 5, 0, 1, 2, 3, 4] (by decide) rfl) (hK.sub [5, 0, 1, 2, 3, 4] rfl) ht hW⟩⟩, hS.F ht⟩) hS.2.2 dX7_first_25
set_option maxHeartbeats 4000000 in
set_option maxRecDepth 100000 in
theorem tX7_firstBreaths (l : Launch) (dC : Nat → ClassId) (dI : Nat → Nat → Nat) (sz : Nat) (oM : Nat) (iM_thrown : Int32) (rM_tape : Nat) (iM_taped : Int32) (iM_size : Int32) (iM_at : Int32) (iM_end : Int32) (iM_token : Int32) (iM_whole : Int32) (iM_nameSize : Int32) (iM_fault : Int32) (iM_place : Int32) (iM_trouble : Int32) (rM_letters : Nat) (iM_failed : Int32) (iM_hasCourt : Int32) (rM_r : Nat) (fM_r : Nat → Int32) (kM_r : ClassId) (rM_fresh : Nat) (rM_told : Nat) (fM_told : Nat → Int32) (kM_told : ClassId) (rM_read : Nat) (rM_st : Nat) (fM_st : Nat → Int32) (kM_st : ClassId) (rM_undone : Nat) (rM_kept : Nat) (iM_undos : Int32) (iM_images : Int32) (rM_fresher : Nat) (iM_fresherSize : Int32) (iM_scale : Int32) (iM_night : Int32) (rM_heardRow : Nat) (fM_heardRow : Nat → Int32) (kM_heardRow : ClassId) (rM_cutRow : Nat) (fM_cutRow : Nat → Int32) (kM_cutRow : ClassId) (iM_breaths : Int32) (iM_cutMany : Int32) (iM_allBreaths : Int32) (rM_trial : Nat) (fM_trial : Nat → Int32) (kM_trial : ClassId) (rM_words : Nat) (iM_fewestBreaths : Int32) (iM_orderMany : Int32) (iM_orderSum : Int32) (iM_leastOrder : Int32) (rM_often : Nat) (iM_setMany : Int32) (iM_someOf : Int32) (iM_allOf : Int32) (iM_allWeight : Int64) (iM_enoughWeight : Int64) (iM_worthSum : Int64) (iM_firstRest : Int32) (iM_leastDrawn : Int32) (p0 : Int32) (b_iM_taped : 0 ≤ iM_taped.toInt ∧ iM_taped.toInt ≤ 900) (b_iM_size : 0 ≤ iM_size.toInt ∧ iM_size.toInt ≤ 900) (b_iM_end : 0 ≤ iM_end.toInt ∧ iM_end.toInt ≤ 900) (b_iM_failed : 0 ≤ iM_failed.toInt ∧ iM_failed.toInt ≤ 1) (b_iM_hasCourt : 0 ≤ iM_hasCourt.toInt ∧ iM_hasCourt.toInt ≤ 1) (b_iM_undos : 0 ≤ iM_undos.toInt ∧ iM_undos.toInt ≤ 16) (b_iM_images : 0 ≤ iM_images.toInt ∧ iM_images.toInt ≤ 3) (b_iM_scale : 1 ≤ iM_scale.toInt ∧ iM_scale.toInt ≤ 1296) (b_iM_breaths : 0 ≤ iM_breaths.toInt ∧ iM_breaths.toInt ≤ 399) (b_iM_cutMany : 0 ≤ iM_cutMany.toInt ∧ iM_cutMany.toInt ≤ 399) (r_R : ROk fM_r) (r_C : iM_hasCourt.toInt ≤ 0 ∨ (1 ≤ (fM_r 1).toInt ∧ 0 ≤ (fM_r 6).toInt ∧ (fM_r 6).toInt < (fM_r 1).toInt)) (r_st : RowOk fM_r fM_st) (r_told : RowOk fM_r fM_told) (r_wst : WorOk fM_st)  : Met l yX7_firstBreaths (Cond.code yX7_firstBreaths cX7_firstBreaths 2 (some .int) :: wG) ({ frames := 23, cells := 0, slots := 0, locals := 648 }) (va_Pc [.ref oM, .int p0] (Pw dC dI sz [(oc7 oM iM_thrown rM_tape iM_taped iM_size iM_at iM_end iM_token iM_whole iM_nameSize iM_fault iM_place iM_trouble rM_letters iM_failed iM_hasCourt rM_r rM_fresh rM_told rM_read rM_st rM_undone rM_kept iM_undos iM_images rM_fresher iM_fresherSize iM_scale iM_night rM_heardRow rM_cutRow iM_breaths iM_cutMany iM_allBreaths rM_trial rM_words iM_fewestBreaths iM_orderMany iM_orderSum iM_leastOrder rM_often iM_setMany iM_someOf iM_allOf iM_allWeight iM_enoughWeight iM_worthSum iM_firstRest iM_leastDrawn), (arI rM_r kM_r 287 fM_r), (arI rM_told kM_told 90 fM_told), (arI rM_st kM_st 90 fM_st), (arI rM_heardRow kM_heardRow 400 fM_heardRow), (arI rM_cutRow kM_cutRow 800 fM_cutRow), (arI rM_trial kM_trial 90 fM_trial)] [(kM_r, .int), (kM_told, .int), (kM_st, .int), (kM_heardRow, .int), (kM_cutRow, .int), (kM_trial, .int)])) (va_Qi (fun (r : Int32) (u : Nat) => (True ∧ True) ∧ r = Int32.ofNat u) (fun (u : Nat) (t : State) => ∃ (niM_thrown : Int32) (niM_trouble : Int32) (niM_breaths : Int32) (niM_cutMany : Int32) (niM_fewestBreaths : Int32) (nfM_heardRow : Nat → Int32) (nfM_cutRow : Nat → Int32) (nfM_trial : Nat → Int32), (0 ≤ niM_breaths.toInt ∧ niM_breaths.toInt ≤ 399) ∧ (0 ≤ niM_cutMany.toInt ∧ niM_cutMany.toInt ≤ 399) ∧ (PX7_firstBreaths iM_hasCourt fM_r fM_told fM_st iM_scale fM_heardRow fM_cutRow iM_breaths iM_cutMany fM_trial iM_fewestBreaths p0 = (Int32.ofNat u, niM_thrown, niM_trouble, niM_breaths, niM_cutMany, niM_fewestBreaths, nfM_heardRow, nfM_cutRow, nfM_trial)) ∧ Bw dC dI (va_A [(oc7 oM iM_thrown rM_tape iM_taped iM_size iM_at iM_end iM_token iM_whole iM_nameSize iM_fault iM_place iM_trouble rM_letters iM_failed iM_hasCourt rM_r rM_fresh rM_told rM_read rM_st rM_undone rM_kept iM_undos iM_images rM_fresher iM_fresherSize iM_scale iM_night rM_heardRow rM_cutRow iM_breaths iM_cutMany iM_allBreaths rM_trial rM_words iM_fewestBreaths iM_orderMany iM_orderSum iM_leastOrder rM_often iM_setMany iM_someOf iM_allOf iM_allWeight iM_enoughWeight iM_worthSum iM_firstRest iM_leastDrawn), (arI rM_r kM_r 287 fM_r), (arI rM_told kM_told 90 fM_told), (arI rM_st kM_st 90 fM_st), (arI rM_heardRow kM_heardRow 400 fM_heardRow), (arI rM_cutRow kM_cutRow 800 fM_cutRow), (arI rM_trial kM_trial 90 fM_trial)] sz) [(oc7 oM niM_thrown rM_tape iM_taped iM_size iM_at iM_end iM_token iM_whole iM_nameSize iM_fault iM_place niM_trouble rM_letters iM_failed iM_hasCourt rM_r rM_fresh rM_told rM_read rM_st rM_undone rM_kept iM_undos iM_images rM_fresher iM_fresherSize iM_scale iM_night rM_heardRow rM_cutRow niM_breaths niM_cutMany iM_allBreaths rM_trial rM_words niM_fewestBreaths iM_orderMany iM_orderSum iM_leastOrder rM_often iM_setMany iM_someOf iM_allOf iM_allWeight iM_enoughWeight iM_worthSum iM_firstRest iM_leastDrawn), (arI rM_r kM_r 287 fM_r), (arI rM_told kM_told 90 fM_told), (arI rM_st kM_st 90 fM_st), (arI rM_heardRow kM_heardRow 400 nfM_heardRow), (arI rM_cutRow kM_cutRow 800 nfM_cutRow), (arI rM_trial kM_trial 90 nfM_trial)] [(kM_r, .int), (kM_told, .int), (kM_st, .int), (kM_heardRow, .int), (kM_cutRow, .int), (kM_trial, .int)] t) (va_A [(oc7 oM iM_thrown rM_tape iM_taped iM_size iM_at iM_end iM_token iM_whole iM_nameSize iM_fault iM_place iM_trouble rM_letters iM_failed iM_hasCourt rM_r rM_fresh rM_told rM_read rM_st rM_undone rM_kept iM_undos iM_images rM_fresher iM_fresherSize iM_scale iM_night rM_heardRow rM_cutRow iM_breaths iM_cutMany iM_allBreaths rM_trial rM_words iM_fewestBreaths iM_orderMany iM_orderSum iM_leastOrder rM_often iM_setMany iM_someOf iM_allOf iM_allWeight iM_enoughWeight iM_worthSum iM_firstRest iM_leastDrawn), (arI rM_r kM_r 287 fM_r), (arI rM_told kM_told 90 fM_told), (arI rM_st kM_st 90 fM_st), (arI rM_heardRow kM_heardRow 400 fM_heardRow), (arI rM_cutRow kM_cutRow 800 fM_cutRow), (arI rM_trial kM_trial 90 fM_trial)] sz)) 0 0 (va_A [(oc7 oM iM_thrown rM_tape iM_taped iM_size iM_at iM_end iM_token iM_whole iM_nameSize iM_fault iM_place iM_trouble rM_letters iM_failed iM_hasCourt rM_r rM_fresh rM_told rM_read rM_st rM_undone rM_kept iM_undos iM_images rM_fresher iM_fresherSize iM_scale iM_night rM_heardRow rM_cutRow iM_breaths iM_cutMany iM_allBreaths rM_trial rM_words iM_fewestBreaths iM_orderMany iM_orderSum iM_leastOrder rM_often iM_setMany iM_someOf iM_allOf iM_allWeight iM_enoughWeight iM_worthSum iM_firstRest iM_leastDrawn), (arI rM_r kM_r 287 fM_r), (arI rM_told kM_told 90 fM_told), (arI rM_st kM_st 90 fM_st), (arI rM_heardRow kM_heardRow 400 fM_heardRow), (arI rM_cutRow kM_cutRow 800 fM_cutRow), (arI rM_trial kM_trial 90 fM_trial)] sz) := by
  refine Met.ofW (cc := cX7_firstBreaths) (maxL := 2) (ret := (some .int)) (by decide) rfl ?_
  intro p e s m args below meth c s₁ B hml hv
  obtain ⟨rfl, hsz, hP, hK, hD0, hE⟩ := hv
  have hx := B.exec
  have hb := B.bytes
  have hr := B.returns
  have hts : ∀ w ∈ wG, w.before ([.ref oM, .int p0] : List Value).toArray s = true := fun w h => atoms_spec (ws := Cond.code yX7_firstBreaths cX7_firstBreaths 2 (some .int) :: wG) B.pre w (List.mem_cons_of_mem _ h)
  have hown : s.vm.findClass RX7 = some m.cls := findClass_of_methodNamed B.named
  have hlocks := B.notSynchronized
  subst hsz
  have hD := hD0.self (sz := s.heap.size)
  generalize hAe : va_A [(oc7 oM iM_thrown rM_tape iM_taped iM_size iM_at iM_end iM_token iM_whole iM_nameSize iM_fault iM_place iM_trouble rM_letters iM_failed iM_hasCourt rM_r rM_fresh rM_told rM_read rM_st rM_undone rM_kept iM_undos iM_images rM_fresher iM_fresherSize iM_scale iM_night rM_heardRow rM_cutRow iM_breaths iM_cutMany iM_allBreaths rM_trial rM_words iM_fewestBreaths iM_orderMany iM_orderSum iM_leastOrder rM_often iM_setMany iM_someOf iM_allOf iM_allWeight iM_enoughWeight iM_worthSum iM_firstRest iM_leastDrawn), (arI rM_r kM_r 287 fM_r), (arI rM_told kM_told 90 fM_told), (arI rM_st kM_st 90 fM_st), (arI rM_heardRow kM_heardRow 400 fM_heardRow), (arI rM_cutRow kM_cutRow 800 fM_cutRow), (arI rM_trial kM_trial 90 fM_trial)] s.heap.size = A at hD hE ⊢
  have hA : ∀ q : Nat, s.heap.size ≤ q → A q := fun q h => by rw [← hAe]; exact Or.inr h
  have hS : va_S A s.heap s.heap [] := va_S.rf
  have hl := lv_entry ([.ref oM, .int p0]) (n := 2) (Nat.le_of_ble_eq_true rfl)
  rw [lg_entry_eq]
  generalize (lg_sl ([.ref oM, .int p0]) ++ List.replicate (2 - (lg_sl ([.ref oM, .int p0])).length) Slot.unset).toArray = ls at hl ⊢
  have hl : lv_has ls 2 [(0, .ref oM), (1, .int p0)] := hl
  have hG := PX7_firstBreaths_eq iM_hasCourt fM_r fM_told fM_st iM_scale fM_heardRow fM_cutRow iM_breaths iM_cutMany fM_trial iM_fewestBreaths p0
  have s_slips := r_R.slips
  have s_nodes := r_R.nodes
  have s_uns := r_R.uns
  refine lv_aload_n hx hb dX7_firstBreaths_0 rfl (lv_at hl 0 rfl) ?_
  have hFc := va_free (wc := [(oc7 oM iM_thrown rM_tape iM_taped iM_size iM_at iM_end iM_token iM_whole iM_nameSize iM_fault iM_place iM_trouble rM_letters iM_failed iM_hasCourt rM_r rM_fresh rM_told rM_read rM_st rM_undone rM_kept iM_undos iM_images rM_fresher iM_fresherSize iM_scale iM_night rM_heardRow rM_cutRow iM_breaths iM_cutMany iM_allBreaths rM_trial rM_words iM_fewestBreaths iM_orderMany iM_orderSum iM_leastOrder rM_often iM_setMany iM_someOf iM_allOf iM_allWeight iM_enoughWeight iM_worthSum iM_firstRest iM_leastDrawn)]) hD hS hA [0] rfl
  refine va_callv (va_runV (As := []) (rest := []) ⟨hx, hb, hml, hown, hts⟩ (tX7_good l dC dI _ oM iM_thrown rM_tape iM_taped iM_size iM_at iM_end iM_token iM_whole iM_nameSize iM_fault iM_place iM_trouble rM_letters iM_failed iM_hasCourt rM_r rM_fresh rM_told rM_read rM_st rM_undone rM_kept iM_undos iM_images rM_fresher iM_fresherSize iM_scale iM_night rM_heardRow rM_cutRow iM_breaths iM_cutMany iM_allBreaths rM_trial rM_words iM_fewestBreaths iM_orderMany iM_orderSum iM_leastOrder rM_often iM_setMany iM_someOf iM_allOf iM_allWeight iM_enoughWeight iM_worthSum iM_firstRest iM_leastDrawn (by first | omega | decide) (by first | omega | decide) (by first | omega | decide) (by first | omega | decide) (by first | omega | decide) (by first | omega | decide) (by first | omega | decide) (by first | omega | decide) (by first | omega | decide) (by first | omega | decide)) (cwV 0 hts (wd_V wd_388 wd_389 wd_390 wd_5 (wd_c wd_391)) rfl rfl rfl (by decide +kernel) ⟨Nat.le_of_ble_eq_true rfl, Nat.le_of_ble_eq_true rfl⟩) ⟨Pw.fb, va_recv hK hP (ci := 7) (q0 := 0) rfl rfl, fun U hU hW => Pw.to (hP.sub [0] rfl) (hD.sub [0] (by decide) rfl) (hK.sub [] rfl) hE hS hFc hU hW⟩ rfl rfl hl.1 rfl (lv_room (Nat.le_of_ble_eq_true rfl)) dX7_firstBreaths_1 ⟨Nat.le_of_ble_eq_true rfl, Nat.le_of_ble_eq_true rfl⟩) hS (fun q _ h => hFc q h) hFc (fun u t H locs ht hvm hw hB hz1 hk1 hS => ?_)
  obtain ⟨x_2132, x_2133, b_x_2132, b_x_2133, e_x_2132_0, hB⟩ := hB
  obtain ⟨hP, hD, hK⟩ := Bw.go (ws' := [(arI rM_r kM_r 287 fM_r), (arI rM_told kM_told 90 fM_told), (arI rM_st kM_st 90 fM_st), (arI rM_heardRow kM_heardRow 400 fM_heardRow), (arI rM_cutRow kM_cutRow 800 fM_cutRow), (arI rM_trial kM_trial 90 fM_trial), (oc7 oM x_2132 rM_tape iM_taped iM_size iM_at iM_end iM_token iM_whole iM_nameSize iM_fault iM_place x_2133 rM_letters iM_failed iM_hasCourt rM_r rM_fresh rM_told rM_read rM_st rM_undone rM_kept iM_undos iM_images rM_fresher iM_fresherSize iM_scale iM_night rM_heardRow rM_cutRow iM_breaths iM_cutMany iM_allBreaths rM_trial rM_words iM_fewestBreaths iM_orderMany iM_orderSum iM_leastOrder rM_often iM_setMany iM_someOf iM_allOf iM_allWeight iM_enoughWeight iM_worthSum iM_firstRest iM_leastDrawn)]) (tys' := [(kM_r, .int), (kM_told, .int), (kM_st, .int), (kM_heardRow, .int), (kM_cutRow, .int), (kM_trial, .int)]) hB rfl ht hvm hP hD hK [0] [1, 2, 3, 4, 5, 6] rfl (by decide) (by decide) [0, 1, 2, 3, 4, 5] hk1 hFc rfl rfl rfl
  clear hz1 hk1 hvm ht hB
  have hG := hG.trans (un2_eq e_x_2132_0)
  refine lv_aload_n hx hb dX7_firstBreaths_4 rfl (lv_at hl 0 rfl) ?_
  refine lv_iload_n hx hb dX7_firstBreaths_5 rfl (lv_at hl 1 rfl) ?_
  have hFc := va_free (wc := [(oc7 oM x_2132 rM_tape iM_taped iM_size iM_at iM_end iM_token iM_whole iM_nameSize iM_fault iM_place x_2133 rM_letters iM_failed iM_hasCourt rM_r rM_fresh rM_told rM_read rM_st rM_undone rM_kept iM_undos iM_images rM_fresher iM_fresherSize iM_scale iM_night rM_heardRow rM_cutRow iM_breaths iM_cutMany iM_allBreaths rM_trial rM_words iM_fewestBreaths iM_orderMany iM_orderSum iM_leastOrder rM_often iM_setMany iM_someOf iM_allOf iM_allWeight iM_enoughWeight iM_worthSum iM_firstRest iM_leastDrawn), (arI rM_r kM_r 287 fM_r)]) hD hS hA [6, 0] rfl
  refine va_calli (va_runV (As := [.int p0]) (rest := []) ⟨hx, hb, hml, hown, hts⟩ (tX7_isNode l dC dI _ oM x_2132 rM_tape iM_taped iM_size iM_at iM_end iM_token iM_whole iM_nameSize iM_fault iM_place x_2133 rM_letters iM_failed iM_hasCourt rM_r fM_r kM_r rM_fresh rM_told rM_read rM_st rM_undone rM_kept iM_undos iM_images rM_fresher iM_fresherSize iM_scale iM_night rM_heardRow rM_cutRow iM_breaths iM_cutMany iM_allBreaths rM_trial rM_words iM_fewestBreaths iM_orderMany iM_orderSum iM_leastOrder rM_often iM_setMany iM_someOf iM_allOf iM_allWeight iM_enoughWeight iM_worthSum iM_firstRest iM_leastDrawn p0 (by first | omega | decide) (by first | omega | decide) (by first | omega | decide) (by first | omega | decide) (by first | omega | decide) (by first | omega | decide) (by first | omega | decide) (by first | omega | decide) (by first | omega | decide) (by first | omega | decide) (by assumption) (by assumption)) (cwV 1 hts (wd_V wd_544 wd_545 wd_546 wd_5 (wd_c wd_547)) rfl rfl rfl (by decide +kernel) ⟨Nat.le_of_ble_eq_true rfl, Nat.le_of_ble_eq_true rfl⟩) ⟨Pw.fb, va_recv hK hP (ci := 7) (q0 := 6) rfl rfl, fun U hU hW => Pw.to (hP.sub [6, 0] rfl) (hD.sub [6, 0] (by decide) rfl) (hK.sub [0] rfl) hE hS hFc hU hW⟩ rfl rfl hl.1 rfl (lv_room (Nat.le_of_ble_eq_true rfl)) dX7_firstBreaths_6 ⟨Nat.le_of_ble_eq_true rfl, Nat.le_of_ble_eq_true rfl⟩) hS (fun q _ h => hFc q h) hFc (fun r u t H locs ht hvm hw hB hz1 hk1 hS => ?_)
  have hru9 := hw.2
  have hw := hw.1
  obtain ⟨hP, hD, hK⟩ := Bw.go (ws' := [(arI rM_told kM_told 90 fM_told), (arI rM_st kM_st 90 fM_st), (arI rM_heardRow kM_heardRow 400 fM_heardRow), (arI rM_cutRow kM_cutRow 800 fM_cutRow), (arI rM_trial kM_trial 90 fM_trial), (oc7 oM x_2132 rM_tape iM_taped iM_size iM_at iM_end iM_token iM_whole iM_nameSize iM_fault iM_place x_2133 rM_letters iM_failed iM_hasCourt rM_r rM_fresh rM_told rM_read rM_st rM_undone rM_kept iM_undos iM_images rM_fresher iM_fresherSize iM_scale iM_night rM_heardRow rM_cutRow iM_breaths iM_cutMany iM_allBreaths rM_trial rM_words iM_fewestBreaths iM_orderMany iM_orderSum iM_leastOrder rM_often iM_setMany iM_someOf iM_allOf iM_allWeight iM_enoughWeight iM_worthSum iM_firstRest iM_leastDrawn), (arI rM_r kM_r 287 fM_r)]) (tys' := [(kM_told, .int), (kM_st, .int), (kM_heardRow, .int), (kM_cutRow, .int), (kM_trial, .int), (kM_r, .int)]) hB rfl ht hvm hP hD hK [6, 0] [1, 2, 3, 4, 5] rfl (by decide) (by decide) [1, 2, 3, 4, 5] hk1 hFc rfl rfl rfl
  clear hz1 hk1 hvm ht hB
  rcases hw.2 with ⟨rfl, hc_2134⟩ | ⟨rfl, hc_2134⟩
  · skip
    have hG := hG.trans (lt_eq hru9.symm)
    have hG := hG.trans (if_pos rfl)
    refine lv_if_ne (tgt := 18) hx hb dX7_firstBreaths_9 (by decide) (fun _ => ?_) (fun c => absurd c (by decide))
    refine lv_aload_n hx hb dX7_firstBreaths_18 rfl (lv_at hl 0 rfl) ?_
    refine lv_iload_n hx hb dX7_firstBreaths_19 rfl (lv_at hl 1 rfl) ?_
    have hFc := va_free (wc := [(oc7 oM x_2132 rM_tape iM_taped iM_size iM_at iM_end iM_token iM_whole iM_nameSize iM_fault iM_place x_2133 rM_letters iM_failed iM_hasCourt rM_r rM_fresh rM_told rM_read rM_st rM_undone rM_kept iM_undos iM_images rM_fresher iM_fresherSize iM_scale iM_night rM_heardRow rM_cutRow iM_breaths iM_cutMany iM_allBreaths rM_trial rM_words iM_fewestBreaths iM_orderMany iM_orderSum iM_leastOrder rM_often iM_setMany iM_someOf iM_allOf iM_allWeight iM_enoughWeight iM_worthSum iM_firstRest iM_leastDrawn), (arI rM_r kM_r 287 fM_r), (arI rM_told kM_told 90 fM_told), (arI rM_st kM_st 90 fM_st), (arI rM_heardRow kM_heardRow 400 fM_heardRow), (arI rM_cutRow kM_cutRow 800 fM_cutRow), (arI rM_trial kM_trial 90 fM_trial)]) hD hS hA [5, 6, 0, 1, 2, 3, 4] rfl
    refine va_calli (va_runV (As := [.int p0]) (rest := []) ⟨hx, hb, hml, hown, hts⟩ (tX7_firstOf l dC dI _ oM x_2132 rM_tape iM_taped iM_size iM_at iM_end iM_token iM_whole iM_nameSize iM_fault iM_place x_2133 rM_letters iM_failed iM_hasCourt rM_r fM_r kM_r rM_fresh rM_told fM_told kM_told rM_read rM_st fM_st kM_st rM_undone rM_kept iM_undos iM_images rM_fresher iM_fresherSize iM_scale iM_night rM_heardRow fM_heardRow kM_heardRow rM_cutRow fM_cutRow kM_cutRow iM_breaths iM_cutMany iM_allBreaths rM_trial fM_trial kM_trial rM_words iM_fewestBreaths iM_orderMany iM_orderSum iM_leastOrder rM_often iM_setMany iM_someOf iM_allOf iM_allWeight iM_enoughWeight iM_worthSum iM_firstRest iM_leastDrawn p0 (by first | omega | decide) (by first | omega | decide) (by first | omega | decide) (by first | omega | decide) (by first | omega | decide) (by first | omega | decide) (by first | omega | decide) (by first | omega | decide) (by first | omega | decide) (by first | omega | decide) (by assumption) (by assumption) (by assumption) (by assumption) (by assumption) (by first | omega | decide | assumption | (have q0 := kc_0; have q1 := kc_1; omega) | (intro h; exact absurd h (by decide))) (by first | omega | decide | assumption | (have q0 := kc_0; have q1 := kc_1; omega) | (intro h; exact absurd h (by decide)))) (cwV 1 hts (wd_V wd_1027 wd_1028 wd_1029 wd_5 (wd_c wd_1030)) rfl rfl rfl (by decide +kernel) ⟨Nat.le_of_ble_eq_true rfl, Nat.le_of_ble_eq_true rfl⟩) ⟨Pw.fb, va_recv hK hP (ci := 7) (q0 := 5) rfl rfl, fun U hU hW => Pw.to (hP.sub [5, 6, 0, 1, 2, 3, 4] rfl) (hD.sub [5, 6, 0, 1, 2, 3, 4] (by decide) rfl) (hK.sub [5, 0, 1, 2, 3, 4] rfl) hE hS hFc hU hW⟩ rfl rfl hl.1 rfl (lv_room (Nat.le_of_ble_eq_true rfl)) dX7_firstBreaths_20 ⟨Nat.le_of_ble_eq_true rfl, Nat.le_of_ble_eq_true rfl⟩) hS (fun q _ h => hFc q h) hFc (fun r u t H locs ht hvm hw hB hz1 hk1 hS => ?_)
    have hru9 := hw.2
    have hw := hw.1
    obtain ⟨x_2137, x_2138, x_2139, f_2140, f_2141, f_2142, b_x_2137, b_x_2138, e_x_2137_0, hB⟩ := hB
    obtain ⟨hP, hD, hK⟩ := Bw.go (ws' := [(oc7 oM x_2132 rM_tape iM_taped iM_size iM_at iM_end iM_token iM_whole iM_nameSize iM_fault iM_place x_2133 rM_letters iM_failed iM_hasCourt rM_r rM_fresh rM_told rM_read rM_st rM_undone rM_kept iM_undos iM_images rM_fresher iM_fresherSize iM_scale iM_night rM_heardRow rM_cutRow x_2137 x_2138 iM_allBreaths rM_trial rM_words x_2139 iM_orderMany iM_orderSum iM_leastOrder rM_often iM_setMany iM_someOf iM_allOf iM_allWeight iM_enoughWeight iM_worthSum iM_firstRest iM_leastDrawn), (arI rM_r kM_r 287 fM_r), (arI rM_told kM_told 90 fM_told), (arI rM_st kM_st 90 fM_st), (arI rM_heardRow kM_heardRow 400 f_2140), (arI rM_cutRow kM_cutRow 800 f_2141), (arI rM_trial kM_trial 90 f_2142)]) (tys' := [(kM_r, .int), (kM_told, .int), (kM_st, .int), (kM_heardRow, .int), (kM_cutRow, .int), (kM_trial, .int)]) hB rfl ht hvm hP hD hK [5, 6, 0, 1, 2, 3, 4] [] rfl (by decide) (by decide) [] hk1 hFc rfl rfl rfl
    clear hz1 hk1 hvm ht hB
    rw [← hru9] at e_x_2137_0
    obtain ⟨x_2143, rfl⟩ : ∃ z, z = r := ⟨_, rfl⟩
    have hG := hG.trans (un7_eq e_x_2137_0)
    refine lv_pop hx hb dX7_firstBreaths_23 rfl ?_
    refine lv_aload_n hx hb dX7_firstBreaths_24 rfl (lv_at hl 0 rfl) ?_
    refine va_get (D := (dC, dI)) (ci := 7) (v := .int x_2139) (C := RX7) (T := TX7) (N := 48) hx hb hts inX7 hown hK hP 0 rfl rfl 35 (by decide) (hts _ wd_1031) (fun _ h9 => h9) rfl dX7_firstBreaths_25 ?_
    exact W.iret hx hb hr (fun t ht hW => ⟨⟨_, (cI x_2139), rfl, ⟨⟨trivial, trivial⟩, (cI_of x_2139)⟩, ⟨x_2132, x_2133, x_2137, x_2138, x_2139, f_2140, f_2141, f_2142, b_x_2137, b_x_2138, (cI_tup hG), Bw.to (hP.sub [0, 1, 2, 3, 4, 5, 6] rfl) (hD.sub [0, 1, 2, 3, 4, 5, 6] (by decide) rfl) (hK.sub [0, 1, 2, 3, 4, 5] rfl) ht hW⟩⟩, hS.F ht⟩) hS.2.2 dX7_firstBreaths_28
  · skip
    have hG := hG.trans (lt_eq hru9.symm)
    have hG := hG.trans (if_neg (by decide))
    refine lv_if_ne (tgt := 18) hx hb dX7_firstBreaths_9 (by decide) (fun c => absurd c (by decide)) (fun _ => ?_)
    refine lv_aload_n hx hb dX7_firstBreaths_12 rfl (lv_at hl 0 rfl) ?_
    refine lv_iconst (v := 1) hx hb dX7_firstBreaths_13 (by decide) ?_
    have hFc := va_free (wc := [(oc7 oM x_2132 rM_tape iM_taped iM_size iM_at iM_end iM_token iM_whole iM_nameSize iM_fault iM_place x_2133 rM_letters iM_failed iM_hasCourt rM_r rM_fresh rM_told rM_read rM_st rM_undone rM_kept iM_undos iM_images rM_fresher iM_fresherSize iM_scale iM_night rM_heardRow rM_cutRow iM_breaths iM_cutMany iM_allBreaths rM_trial rM_words iM_fewestBreaths iM_orderMany iM_orderSum iM_leastOrder rM_often iM_setMany iM_someOf iM_allOf iM_allWeight iM_enoughWeight iM_worthSum iM_firstRest iM_leastDrawn)]) hD hS hA [5] rfl
    refine va_calli (va_runV (As := [.int 1]) (rest := []) ⟨hx, hb, hml, hown, hts⟩ (tX7_no l dC dI _ oM x_2132 rM_tape iM_taped iM_size iM_at iM_end iM_token iM_whole iM_nameSize iM_fault iM_place x_2133 rM_letters iM_failed iM_hasCourt rM_r rM_fresh rM_told rM_read rM_st rM_undone rM_kept iM_undos iM_images rM_fresher iM_fresherSize iM_scale iM_night rM_heardRow rM_cutRow iM_breaths iM_cutMany iM_allBreaths rM_trial rM_words iM_fewestBreaths iM_orderMany iM_orderSum iM_leastOrder rM_often iM_setMany iM_someOf iM_allOf iM_allWeight iM_enoughWeight iM_worthSum iM_firstRest iM_leastDrawn 1 (by first | omega | decide) (by first | omega | decide) (by first | omega | decide) (by first | omega | decide) (by first | omega | decide) (by first | omega | decide) (by first | omega | decide) (by first | omega | decide) (by first | omega | decide) (by first | omega | decide)) (cwV 1 hts (wd_V wd_396 wd_397 wd_398 wd_5 (wd_c wd_399)) rfl rfl rfl (by decide +kernel) ⟨Nat.le_of_ble_eq_true rfl, Nat.le_of_ble_eq_true rfl⟩) ⟨Pw.fb, va_recv hK hP (ci := 7) (q0 := 5) rfl rfl, fun U hU hW => Pw.to (hP.sub [5] rfl) (hD.sub [5] (by decide) rfl) (hK.sub [] rfl) hE hS hFc hU hW⟩ rfl rfl hl.1 rfl (lv_room (Nat.le_of_ble_eq_true rfl)) dX7_firstBreaths_14 ⟨Nat.le_of_ble_eq_true rfl, Nat.le_of_ble_eq_true rfl⟩) hS (fun q _ h => hFc q h) hFc (fun r u t H locs ht hvm hw hB hz1 hk1 hS => ?_)
    have hru9 := hw.2
    have hw := hw.1
    obtain ⟨x_2145, e_x_2145_0, hB⟩ := hB
    obtain ⟨hP, hD, hK⟩ := Bw.go (ws' := [(arI rM_told kM_told 90 fM_told), (arI rM_st kM_st 90 fM_st), (arI rM_heardRow kM_heardRow 400 fM_heardRow), (arI rM_cutRow kM_cutRow 800 fM_cutRow), (arI rM_trial kM_trial 90 fM_trial), (arI rM_r kM_r 287 fM_r), (oc7 oM x_2132 rM_tape iM_taped iM_size iM_at iM_end iM_token iM_whole iM_nameSize iM_fault iM_place x_2145 rM_letters iM_failed iM_hasCourt rM_r rM_fresh rM_told rM_read rM_st rM_undone rM_kept iM_undos iM_images rM_fresher iM_fresherSize iM_scale iM_night rM_heardRow rM_cutRow iM_breaths iM_cutMany iM_allBreaths rM_trial rM_words iM_fewestBreaths iM_orderMany iM_orderSum iM_leastOrder rM_often iM_setMany iM_someOf iM_allOf iM_allWeight iM_enoughWeight iM_worthSum iM_firstRest iM_leastDrawn)]) (tys' := [(kM_told, .int), (kM_st, .int), (kM_heardRow, .int), (kM_cutRow, .int), (kM_trial, .int), (kM_r, .int)]) hB rfl ht hvm hP hD hK [5] [0, 1, 2, 3, 4, 6] rfl (by decide) (by decide) [0, 1, 2, 3, 4, 5] hk1 hFc rfl rfl rfl
    clear hz1 hk1 hvm ht hB
    rw [← hru9] at e_x_2145_0
    obtain ⟨x_2146, rfl⟩ : ∃ z, z = r := ⟨_, rfl⟩
    have hG := hG.trans (un2_eq e_x_2145_0)
    exact W.iret hx hb hr (fun t ht hW => ⟨⟨_, (cI x_2146), rfl, ⟨⟨trivial, trivial⟩, (cI_of x_2146)⟩, ⟨x_2132, x_2145, iM_breaths, iM_cutMany, iM_fewestBreaths, fM_heardRow, fM_cutRow, fM_trial, (by omega), (by omega), (cI_tup hG), Bw.to (hP.sub [6, 5, 0, 1, 2, 3, 4] rfl) (hD.sub [6, 5, 0, 1, 2, 3, 4] (by decide) rfl) (hK.sub [5, 0, 1, 2, 3, 4] rfl) ht hW⟩⟩, hS.F ht⟩) hS.2.2 dX7_firstBreaths_17
set_option maxHeartbeats 4000000 in
set_option maxRecDepth 100000 in
theorem tX7_throneAt (l : Launch) (dC : Nat → ClassId) (dI : Nat → Nat → Nat) (sz : Nat) (oM : Nat) (iM_thrown : Int32) (rM_tape : Nat) (iM_taped : Int32) (iM_size : Int32) (iM_at : Int32) (iM_end : Int32) (iM_token : Int32) (iM_whole : Int32) (iM_nameSize : Int32) (iM_fault : Int32) (iM_place : Int32) (iM_trouble : Int32) (rM_letters : Nat) (iM_failed : Int32) (iM_hasCourt : Int32) (rM_r : Nat) (fM_r : Nat → Int32) (kM_r : ClassId) (rM_fresh : Nat) (rM_told : Nat) (fM_told : Nat → Int32) (kM_told : ClassId) (rM_read : Nat) (rM_st : Nat) (fM_st : Nat → Int32) (kM_st : ClassId) (rM_undone : Nat) (rM_kept : Nat) (iM_undos : Int32) (iM_images : Int32) (rM_fresher : Nat) (iM_fresherSize : Int32) (iM_scale : Int32) (iM_night : Int32) (rM_heardRow : Nat) (rM_cutRow : Nat) (iM_breaths : Int32) (iM_cutMany : Int32) (iM_allBreaths : Int32) (rM_trial : Nat) (rM_words : Nat) (iM_fewestBreaths : Int32) (iM_orderMany : Int32) (iM_orderSum : Int32) (iM_leastOrder : Int32) (rM_often : Nat) (iM_setMany : Int32) (iM_someOf : Int32) (iM_allOf : Int32) (iM_allWeight : Int64) (iM_enoughWeight : Int64) (iM_worthSum : Int64) (iM_firstRest : Int32) (iM_leastDrawn : Int32) (p0 : Int32) (b_iM_taped : 0 ≤ iM_taped.toInt ∧ iM_taped.toInt ≤ 900) (b_iM_size : 0 ≤ iM_size.toInt ∧ iM_size.toInt ≤ 900) (b_iM_end : 0 ≤ iM_end.toInt ∧ iM_end.toInt ≤ 900) (b_iM_failed : 0 ≤ iM_failed.toInt ∧ iM_failed.toInt ≤ 1) (b_iM_hasCourt : 0 ≤ iM_hasCourt.toInt ∧ iM_hasCourt.toInt ≤ 1) (b_iM_undos : 0 ≤ iM_undos.toInt ∧ iM_undos.toInt ≤ 16) (b_iM_images : 0 ≤ iM_images.toInt ∧ iM_images.toInt ≤ 3) (b_iM_scale : 1 ≤ iM_scale.toInt ∧ iM_scale.toInt ≤ 1296) (b_iM_breaths : 0 ≤ iM_breaths.toInt ∧ iM_breaths.toInt ≤ 399) (b_iM_cutMany : 0 ≤ iM_cutMany.toInt ∧ iM_cutMany.toInt ≤ 399) (r_R : ROk fM_r) (r_C : iM_hasCourt.toInt ≤ 0 ∨ (1 ≤ (fM_r 1).toInt ∧ 0 ≤ (fM_r 6).toInt ∧ (fM_r 6).toInt < (fM_r 1).toInt)) (r_st : RowOk fM_r fM_st) (r_told : RowOk fM_r fM_told) (r_wst : WorOk fM_st) (hth : 0 ≤ (fM_r 6).toInt ∧ (fM_r 6).toInt < (fM_r 1).toInt) : Met l yX7_throneAt (Cond.code yX7_throneAt cX7_throneAt 3 (some .int) :: wG) ({ frames := 22, cells := 0, slots := 0, locals := 585 }) (va_Pc [.ref oM, .int p0] (Pw dC dI sz [(oc7 oM iM_thrown rM_tape iM_taped iM_size iM_at iM_end iM_token iM_whole iM_nameSize iM_fault iM_place iM_trouble rM_letters iM_failed iM_hasCourt rM_r rM_fresh rM_told rM_read rM_st rM_undone rM_kept iM_undos iM_images rM_fresher iM_fresherSize iM_scale iM_night rM_heardRow rM_cutRow iM_breaths iM_cutMany iM_allBreaths rM_trial rM_words iM_fewestBreaths iM_orderMany iM_orderSum iM_leastOrder rM_often iM_setMany iM_someOf iM_allOf iM_allWeight iM_enoughWeight iM_worthSum iM_firstRest iM_leastDrawn), (arI rM_r kM_r 287 fM_r), (arI rM_told kM_told 90 fM_told), (arI rM_st kM_st 90 fM_st)] [(kM_r, .int), (kM_told, .int), (kM_st, .int)])) (va_Qi (fun (r : Int32) (u : Nat) => (True ∧ True) ∧ r = Int32.ofNat u) (fun (u : Nat) (t : State) => ∃ (niM_night : Int32), ((-1) ≤ niM_night.toInt ∧ niM_night.toInt ≤ (-1)) ∧ (PX7_throneAt fM_r fM_told fM_st iM_scale p0 = (Int32.ofNat u, niM_night)) ∧ Bw dC dI (va_A [(oc7 oM iM_thrown rM_tape iM_taped iM_size iM_at iM_end iM_token iM_whole iM_nameSize iM_fault iM_place iM_trouble rM_letters iM_failed iM_hasCourt rM_r rM_fresh rM_told rM_read rM_st rM_undone rM_kept iM_undos iM_images rM_fresher iM_fresherSize iM_scale iM_night rM_heardRow rM_cutRow iM_breaths iM_cutMany iM_allBreaths rM_trial rM_words iM_fewestBreaths iM_orderMany iM_orderSum iM_leastOrder rM_often iM_setMany iM_someOf iM_allOf iM_allWeight iM_enoughWeight iM_worthSum iM_firstRest iM_leastDrawn), (arI rM_r kM_r 287 fM_r), (arI rM_told kM_told 90 fM_told), (arI rM_st kM_st 90 fM_st)] sz) [(oc7 oM iM_thrown rM_tape iM_taped iM_size iM_at iM_end iM_token iM_whole iM_nameSize iM_fault iM_place iM_trouble rM_letters iM_failed iM_hasCourt rM_r rM_fresh rM_told rM_read rM_st rM_undone rM_kept iM_undos iM_images rM_fresher iM_fresherSize iM_scale niM_night rM_heardRow rM_cutRow iM_breaths iM_cutMany iM_allBreaths rM_trial rM_words iM_fewestBreaths iM_orderMany iM_orderSum iM_leastOrder rM_often iM_setMany iM_someOf iM_allOf iM_allWeight iM_enoughWeight iM_worthSum iM_firstRest iM_leastDrawn), (arI rM_r kM_r 287 fM_r), (arI rM_told kM_told 90 fM_told), (arI rM_st kM_st 90 fM_st)] [(kM_r, .int), (kM_told, .int), (kM_st, .int)] t) (va_A [(oc7 oM iM_thrown rM_tape iM_taped iM_size iM_at iM_end iM_token iM_whole iM_nameSize iM_fault iM_place iM_trouble rM_letters iM_failed iM_hasCourt rM_r rM_fresh rM_told rM_read rM_st rM_undone rM_kept iM_undos iM_images rM_fresher iM_fresherSize iM_scale iM_night rM_heardRow rM_cutRow iM_breaths iM_cutMany iM_allBreaths rM_trial rM_words iM_fewestBreaths iM_orderMany iM_orderSum iM_leastOrder rM_often iM_setMany iM_someOf iM_allOf iM_allWeight iM_enoughWeight iM_worthSum iM_firstRest iM_leastDrawn), (arI rM_r kM_r 287 fM_r), (arI rM_told kM_told 90 fM_told), (arI rM_st kM_st 90 fM_st)] sz)) 0 0 (va_A [(oc7 oM iM_thrown rM_tape iM_taped iM_size iM_at iM_end iM_token iM_whole iM_nameSize iM_fault iM_place iM_trouble rM_letters iM_failed iM_hasCourt rM_r rM_fresh rM_told rM_read rM_st rM_undone rM_kept iM_undos iM_images rM_fresher iM_fresherSize iM_scale iM_night rM_heardRow rM_cutRow iM_breaths iM_cutMany iM_allBreaths rM_trial rM_words iM_fewestBreaths iM_orderMany iM_orderSum iM_leastOrder rM_often iM_setMany iM_someOf iM_allOf iM_allWeight iM_enoughWeight iM_worthSum iM_firstRest iM_leastDrawn), (arI rM_r kM_r 287 fM_r), (arI rM_told kM_told 90 fM_told), (arI rM_st kM_st 90 fM_st)] sz) := by
  refine Met.ofW (cc := cX7_throneAt) (maxL := 3) (ret := (some .int)) (by decide) rfl ?_
  intro p e s m args below meth c s₁ B hml hv
  obtain ⟨rfl, hsz, hP, hK, hD0, hE⟩ := hv
  have hx := B.exec
  have hb := B.bytes
  have hr := B.returns
  have hts : ∀ w ∈ wG, w.before ([.ref oM, .int p0] : List Value).toArray s = true := fun w h => atoms_spec (ws := Cond.code yX7_throneAt cX7_throneAt 3 (some .int) :: wG) B.pre w (List.mem_cons_of_mem _ h)
  have hown : s.vm.findClass RX7 = some m.cls := findClass_of_methodNamed B.named
  have hlocks := B.notSynchronized
  subst hsz
  have hD := hD0.self (sz := s.heap.size)
  generalize hAe : va_A [(oc7 oM iM_thrown rM_tape iM_taped iM_size iM_at iM_end iM_token iM_whole iM_nameSize iM_fault iM_place iM_trouble rM_letters iM_failed iM_hasCourt rM_r rM_fresh rM_told rM_read rM_st rM_undone rM_kept iM_undos iM_images rM_fresher iM_fresherSize iM_scale iM_night rM_heardRow rM_cutRow iM_breaths iM_cutMany iM_allBreaths rM_trial rM_words iM_fewestBreaths iM_orderMany iM_orderSum iM_leastOrder rM_often iM_setMany iM_someOf iM_allOf iM_allWeight iM_enoughWeight iM_worthSum iM_firstRest iM_leastDrawn), (arI rM_r kM_r 287 fM_r), (arI rM_told kM_told 90 fM_told), (arI rM_st kM_st 90 fM_st)] s.heap.size = A at hD hE ⊢
  have hA : ∀ q : Nat, s.heap.size ≤ q → A q := fun q h => by rw [← hAe]; exact Or.inr h
  have hS : va_S A s.heap s.heap [] := va_S.rf
  have hl := lv_entry ([.ref oM, .int p0]) (n := 3) (Nat.le_of_ble_eq_true rfl)
  rw [lg_entry_eq]
  generalize (lg_sl ([.ref oM, .int p0]) ++ List.replicate (3 - (lg_sl ([.ref oM, .int p0])).length) Slot.unset).toArray = ls at hl ⊢
  have hl : lv_has ls 3 [(0, .ref oM), (1, .int p0)] := hl
  have hG := PX7_throneAt_eq fM_r fM_told fM_st iM_scale p0
  have s_slips := r_R.slips
  have s_nodes := r_R.nodes
  have s_uns := r_R.uns
  refine lv_aload_n hx hb dX7_throneAt_0 rfl (lv_at hl 0 rfl) ?_
  refine lv_iload_n hx hb dX7_throneAt_1 rfl (lv_at hl 1 rfl) ?_
  refine va_put (D := (dC, dI)) (ci := 7) (v := .int p0) (ty := .int) (C := RX7) (T := TX7) (N := 48) hx hb hts inX7 tyX7 tyX7_ok nmX7 hown hK hP hD hS 0 rfl rfl 27 (by decide) (hts _ wd_164) (fun _ h9 => h9) rfl (by decide +kernel) rfl rfl (Nat.le_of_ble_eq_true rfl) dX7_throneAt_2 (fun H locs hP hD hS => ?_)
  obtain ⟨hP, hD⟩ := wl2 (ws' := [(oc7 oM iM_thrown rM_tape iM_taped iM_size iM_at iM_end iM_token iM_whole iM_nameSize iM_fault iM_place iM_trouble rM_letters iM_failed iM_hasCourt rM_r rM_fresh rM_told rM_read rM_st rM_undone rM_kept iM_undos iM_images rM_fresher iM_fresherSize iM_scale p0 rM_heardRow rM_cutRow iM_breaths iM_cutMany iM_allBreaths rM_trial rM_words iM_fewestBreaths iM_orderMany iM_orderSum iM_leastOrder rM_often iM_setMany iM_someOf iM_allOf iM_allWeight iM_enoughWeight iM_worthSum iM_firstRest iM_leastDrawn), (arI rM_r kM_r 287 fM_r), (arI rM_told kM_told 90 fM_told), (arI rM_st kM_st 90 fM_st)]) hP hD rfl
  refine lv_aload_n hx hb dX7_throneAt_5 rfl (lv_at hl 0 rfl) ?_
  refine lv_aload_n hx hb dX7_throneAt_6 rfl (lv_at hl 0 rfl) ?_
  refine va_get (D := (dC, dI)) (ci := 7) (v := .ref rM_st) (C := RX7) (T := TX7) (N := 48) hx hb hts inX7 hown hK hP 0 rfl rfl 19 (by decide) (hts _ wd_159) (fun _ h9 => h9) rfl dX7_throneAt_7 ?_
  have hFc := va_free (wc := [(oc7 oM iM_thrown rM_tape iM_taped iM_size iM_at iM_end iM_token iM_whole iM_nameSize iM_fault iM_place iM_trouble rM_letters iM_failed iM_hasCourt rM_r rM_fresh rM_told rM_read rM_st rM_undone rM_kept iM_undos iM_images rM_fresher iM_fresherSize iM_scale p0 rM_heardRow rM_cutRow iM_breaths iM_cutMany iM_allBreaths rM_trial rM_words iM_fewestBreaths iM_orderMany iM_orderSum iM_leastOrder rM_often iM_setMany iM_someOf iM_allOf iM_allWeight iM_enoughWeight iM_worthSum iM_firstRest iM_leastDrawn), (arI rM_r kM_r 287 fM_r), (arI rM_told kM_told 90 fM_told), (arI rM_st kM_st 90 fM_st)]) hD hS hA [0, 1, 2, 3] rfl
  refine va_calli (va_runV (As := [.ref rM_st]) (rest := []) ⟨hx, hb, hml, hown, hts⟩ (tX7_throneBy l dC dI _ oM iM_thrown rM_tape iM_taped iM_size iM_at iM_end iM_token iM_whole iM_nameSize iM_fault iM_place iM_trouble rM_letters iM_failed iM_hasCourt rM_r fM_r kM_r rM_fresh rM_told fM_told kM_told rM_read rM_st rM_undone rM_kept iM_undos iM_images rM_fresher iM_fresherSize iM_scale p0 rM_heardRow rM_cutRow iM_breaths iM_cutMany iM_allBreaths rM_trial rM_words iM_fewestBreaths iM_orderMany iM_orderSum iM_leastOrder rM_often iM_setMany iM_someOf iM_allOf iM_allWeight iM_enoughWeight iM_worthSum iM_firstRest iM_leastDrawn rM_st fM_st kM_st (by first | omega | decide) (by first | omega | decide) (by first | omega | decide) (by first | omega | decide) (by first | omega | decide) (by first | omega | decide) (by first | omega | decide) (by first | omega | decide) (by first | omega | decide) (by first | omega | decide) (by assumption) (by assumption) (by assumption) (by assumption) (by first | omega | decide | assumption | (have q0 := kc_0; have q1 := kc_1; omega) | (intro h; exact absurd h (by decide)))) (cwV 1 hts (wd_V wd_979 wd_980 wd_981 wd_5 (wd_c wd_982)) rfl rfl rfl (by decide +kernel) ⟨Nat.le_of_ble_eq_true rfl, Nat.le_of_ble_eq_true rfl⟩) ⟨Pw.fb, va_recv hK hP (ci := 7) (q0 := 0) rfl rfl, fun U hU hW => Pw.to (hP.sub [0, 1, 2, 3] rfl) (hD.sub [0, 1, 2, 3] (by decide) rfl) (hK.sub [0, 1, 2] rfl) hE hS hFc hU hW⟩ rfl rfl hl.1 rfl (lv_room (Nat.le_of_ble_eq_true rfl)) dX7_throneAt_10 ⟨Nat.le_of_ble_eq_true rfl, Nat.le_of_ble_eq_true rfl⟩) hS (fun q _ h => hFc q h) hFc (fun r u t H locs ht hvm hw hB hz1 hk1 hS => ?_)
  have hru9 := hw.2
  have hw := hw.1
  obtain ⟨hP, hD, hK⟩ := Bw.go (ws' := [(oc7 oM iM_thrown rM_tape iM_taped iM_size iM_at iM_end iM_token iM_whole iM_nameSize iM_fault iM_place iM_trouble rM_letters iM_failed iM_hasCourt rM_r rM_fresh rM_told rM_read rM_st rM_undone rM_kept iM_undos iM_images rM_fresher iM_fresherSize iM_scale p0 rM_heardRow rM_cutRow iM_breaths iM_cutMany iM_allBreaths rM_trial rM_words iM_fewestBreaths iM_orderMany iM_orderSum iM_leastOrder rM_often iM_setMany iM_someOf iM_allOf iM_allWeight iM_enoughWeight iM_worthSum iM_firstRest iM_leastDrawn), (arI rM_r kM_r 287 fM_r), (arI rM_told kM_told 90 fM_told), (arI rM_st kM_st 90 fM_st)]) (tys' := [(kM_r, .int), (kM_told, .int), (kM_st, .int)]) hB rfl ht hvm hP hD hK [0, 1, 2, 3] [] rfl (by decide) (by decide) [] hk1 hFc rfl rfl rfl
  clear hz1 hk1 hvm ht hB
  obtain ⟨x_2148, rfl⟩ : ∃ z, z = r := ⟨_, rfl⟩
  have hG := hG.trans (lt_eq hru9.symm)
  refine lv_istore_n (lv' := [(2, .int x_2148), (0, .ref oM), (1, .int p0)]) hx hb dX7_throneAt_13 rfl hl (by decide) rfl (fun ls hl => ?_)
  refine lv_aload_n hx hb dX7_throneAt_14 rfl (lv_at hl 1 rfl) ?_
  refine lv_iconst (v := (-1)) hx hb dX7_throneAt_15 (by decide) ?_
  refine va_put (D := (dC, dI)) (ci := 7) (v := .int (-1)) (ty := .int) (C := RX7) (T := TX7) (N := 48) hx hb hts inX7 tyX7 tyX7_ok nmX7 hown hK hP hD hS 0 rfl rfl 27 (by decide) (hts _ wd_164) (fun _ h9 => h9) rfl (by decide +kernel) rfl rfl (Nat.le_of_ble_eq_true rfl) dX7_throneAt_16 (fun H locs hP hD hS => ?_)
  obtain ⟨hP, hD⟩ := wl2 (ws' := [(oc7 oM iM_thrown rM_tape iM_taped iM_size iM_at iM_end iM_token iM_whole iM_nameSize iM_fault iM_place iM_trouble rM_letters iM_failed iM_hasCourt rM_r rM_fresh rM_told rM_read rM_st rM_undone rM_kept iM_undos iM_images rM_fresher iM_fresherSize iM_scale (-1) rM_heardRow rM_cutRow iM_breaths iM_cutMany iM_allBreaths rM_trial rM_words iM_fewestBreaths iM_orderMany iM_orderSum iM_leastOrder rM_often iM_setMany iM_someOf iM_allOf iM_allWeight iM_enoughWeight iM_worthSum iM_firstRest iM_leastDrawn), (arI rM_r kM_r 287 fM_r), (arI rM_told kM_told 90 fM_told), (arI rM_st kM_st 90 fM_st)]) hP hD rfl
  refine lv_iload_n hx hb dX7_throneAt_19 rfl (lv_at hl 0 rfl) ?_
  exact W.iret hx hb hr (fun t ht hW => ⟨⟨_, (cI x_2148), rfl, ⟨⟨trivial, trivial⟩, (cI_of x_2148)⟩, ⟨(-1), (by decide), (cI_tup hG), Bw.to (hP.sub [0, 1, 2, 3] rfl) (hD.sub [0, 1, 2, 3] (by decide) rfl) (hK.sub [0, 1, 2] rfl) ht hW⟩⟩, hS.F ht⟩) hS.2.2 dX7_throneAt_20
set_option maxHeartbeats 4000000 in
set_option maxRecDepth 100000 in
theorem tX7_night (l : Launch) (dC : Nat → ClassId) (dI : Nat → Nat → Nat) (sz : Nat) (oM : Nat) (iM_thrown : Int32) (rM_tape : Nat) (iM_taped : Int32) (iM_size : Int32) (iM_at : Int32) (iM_end : Int32) (iM_token : Int32) (iM_whole : Int32) (iM_nameSize : Int32) (iM_fault : Int32) (iM_place : Int32) (iM_trouble : Int32) (rM_letters : Nat) (iM_failed : Int32) (iM_hasCourt : Int32) (rM_r : Nat) (fM_r : Nat → Int32) (kM_r : ClassId) (rM_fresh : Nat) (rM_told : Nat) (fM_told : Nat → Int32) (kM_told : ClassId) (rM_read : Nat) (rM_st : Nat) (fM_st : Nat → Int32) (kM_st : ClassId) (rM_undone : Nat) (rM_kept : Nat) (iM_undos : Int32) (iM_images : Int32) (rM_fresher : Nat) (iM_fresherSize : Int32) (iM_scale : Int32) (iM_night : Int32) (rM_heardRow : Nat) (rM_cutRow : Nat) (iM_breaths : Int32) (iM_cutMany : Int32) (iM_allBreaths : Int32) (rM_trial : Nat) (rM_words : Nat) (iM_fewestBreaths : Int32) (iM_orderMany : Int32) (iM_orderSum : Int32) (iM_leastOrder : Int32) (rM_often : Nat) (iM_setMany : Int32) (iM_someOf : Int32) (iM_allOf : Int32) (iM_allWeight : Int64) (iM_enoughWeight : Int64) (iM_worthSum : Int64) (iM_firstRest : Int32) (iM_leastDrawn : Int32) (p0 : Int32) (p1 : Int32) (b_iM_taped : 0 ≤ iM_taped.toInt ∧ iM_taped.toInt ≤ 900) (b_iM_size : 0 ≤ iM_size.toInt ∧ iM_size.toInt ≤ 900) (b_iM_end : 0 ≤ iM_end.toInt ∧ iM_end.toInt ≤ 900) (b_iM_failed : 0 ≤ iM_failed.toInt ∧ iM_failed.toInt ≤ 1) (b_iM_hasCourt : 0 ≤ iM_hasCourt.toInt ∧ iM_hasCourt.toInt ≤ 1) (b_iM_undos : 0 ≤ iM_undos.toInt ∧ iM_undos.toInt ≤ 16) (b_iM_images : 0 ≤ iM_images.toInt ∧ iM_images.toInt ≤ 3) (b_iM_scale : 1 ≤ iM_scale.toInt ∧ iM_scale.toInt ≤ 1296) (b_iM_breaths : 0 ≤ iM_breaths.toInt ∧ iM_breaths.toInt ≤ 399) (b_iM_cutMany : 0 ≤ iM_cutMany.toInt ∧ iM_cutMany.toInt ≤ 399) (r_R : ROk fM_r) (r_C : iM_hasCourt.toInt ≤ 0 ∨ (1 ≤ (fM_r 1).toInt ∧ 0 ≤ (fM_r 6).toInt ∧ (fM_r 6).toInt < (fM_r 1).toInt)) (r_st : RowOk fM_r fM_st) (r_told : RowOk fM_r fM_told) (r_wst : WorOk fM_st) (hnt : iM_night.toInt = -1) : Met l yX7_night (Cond.code yX7_night cX7_night 4 (some .long) :: wG) ({ frames := 23, cells := 0, slots := 0, locals := 607 }) (va_Pc [.ref oM, .int p0, .int p1] (Pw dC dI sz [(oc7 oM iM_thrown rM_tape iM_taped iM_size iM_at iM_end iM_token iM_whole iM_nameSize iM_fault iM_place iM_trouble rM_letters iM_failed iM_hasCourt rM_r rM_fresh rM_told rM_read rM_st rM_undone rM_kept iM_undos iM_images rM_fresher iM_fresherSize iM_scale iM_night rM_heardRow rM_cutRow iM_breaths iM_cutMany iM_allBreaths rM_trial rM_words iM_fewestBreaths iM_orderMany iM_orderSum iM_leastOrder rM_often iM_setMany iM_someOf iM_allOf iM_allWeight iM_enoughWeight iM_worthSum iM_firstRest iM_leastDrawn), (arI rM_r kM_r 287 fM_r), (arI rM_told kM_told 90 fM_told), (arI rM_st kM_st 90 fM_st)] [(kM_r, .int), (kM_told, .int), (kM_st, .int)])) (va_Ql (fun (r : Int64) (u : Nat) => (True ∧ True) ∧ r = Int64.ofNat u) (fun (u : Nat) (t : State) => ∃ (niM_thrown : Int32) (niM_trouble : Int32) (niM_night : Int32), (niM_night.toInt = -1) ∧ (PX7_night iM_hasCourt fM_r fM_told fM_st iM_scale iM_night p0 p1 = (Int64.ofNat u, niM_thrown, niM_trouble, niM_night)) ∧ Bw dC dI (va_A [(oc7 oM iM_thrown rM_tape iM_taped iM_size iM_at iM_end iM_token iM_whole iM_nameSize iM_fault iM_place iM_trouble rM_letters iM_failed iM_hasCourt rM_r rM_fresh rM_told rM_read rM_st rM_undone rM_kept iM_undos iM_images rM_fresher iM_fresherSize iM_scale iM_night rM_heardRow rM_cutRow iM_breaths iM_cutMany iM_allBreaths rM_trial rM_words iM_fewestBreaths iM_orderMany iM_orderSum iM_leastOrder rM_often iM_setMany iM_someOf iM_allOf iM_allWeight iM_enoughWeight iM_worthSum iM_firstRest iM_leastDrawn), (arI rM_r kM_r 287 fM_r), (arI rM_told kM_told 90 fM_told), (arI rM_st kM_st 90 fM_st)] sz) [(oc7 oM niM_thrown rM_tape iM_taped iM_size iM_at iM_end iM_token iM_whole iM_nameSize iM_fault iM_place niM_trouble rM_letters iM_failed iM_hasCourt rM_r rM_fresh rM_told rM_read rM_st rM_undone rM_kept iM_undos iM_images rM_fresher iM_fresherSize iM_scale niM_night rM_heardRow rM_cutRow iM_breaths iM_cutMany iM_allBreaths rM_trial rM_words iM_fewestBreaths iM_orderMany iM_orderSum iM_leastOrder rM_often iM_setMany iM_someOf iM_allOf iM_allWeight iM_enoughWeight iM_worthSum iM_firstRest iM_leastDrawn), (arI rM_r kM_r 287 fM_r), (arI rM_told kM_told 90 fM_told), (arI rM_st kM_st 90 fM_st)] [(kM_r, .int), (kM_told, .int), (kM_st, .int)] t) (va_A [(oc7 oM iM_thrown rM_tape iM_taped iM_size iM_at iM_end iM_token iM_whole iM_nameSize iM_fault iM_place iM_trouble rM_letters iM_failed iM_hasCourt rM_r rM_fresh rM_told rM_read rM_st rM_undone rM_kept iM_undos iM_images rM_fresher iM_fresherSize iM_scale iM_night rM_heardRow rM_cutRow iM_breaths iM_cutMany iM_allBreaths rM_trial rM_words iM_fewestBreaths iM_orderMany iM_orderSum iM_leastOrder rM_often iM_setMany iM_someOf iM_allOf iM_allWeight iM_enoughWeight iM_worthSum iM_firstRest iM_leastDrawn), (arI rM_r kM_r 287 fM_r), (arI rM_told kM_told 90 fM_told), (arI rM_st kM_st 90 fM_st)] sz)) 0 0 (va_A [(oc7 oM iM_thrown rM_tape iM_taped iM_size iM_at iM_end iM_token iM_whole iM_nameSize iM_fault iM_place iM_trouble rM_letters iM_failed iM_hasCourt rM_r rM_fresh rM_told rM_read rM_st rM_undone rM_kept iM_undos iM_images rM_fresher iM_fresherSize iM_scale iM_night rM_heardRow rM_cutRow iM_breaths iM_cutMany iM_allBreaths rM_trial rM_words iM_fewestBreaths iM_orderMany iM_orderSum iM_leastOrder rM_often iM_setMany iM_someOf iM_allOf iM_allWeight iM_enoughWeight iM_worthSum iM_firstRest iM_leastDrawn), (arI rM_r kM_r 287 fM_r), (arI rM_told kM_told 90 fM_told), (arI rM_st kM_st 90 fM_st)] sz) := by
  refine Met.ofW (cc := cX7_night) (maxL := 4) (ret := (some .long)) (by decide) rfl ?_
  intro p e s m args below meth c s₁ B hml hv
  obtain ⟨rfl, hsz, hP, hK, hD0, hE⟩ := hv
  have hx := B.exec
  have hb := B.bytes
  have hr := B.returns
  have hts : ∀ w ∈ wG, w.before ([.ref oM, .int p0, .int p1] : List Value).toArray s = true := fun w h => atoms_spec (ws := Cond.code yX7_night cX7_night 4 (some .long) :: wG) B.pre w (List.mem_cons_of_mem _ h)
  have hown : s.vm.findClass RX7 = some m.cls := findClass_of_methodNamed B.named
  have hlocks := B.notSynchronized
  subst hsz
  have hD := hD0.self (sz := s.heap.size)
  generalize hAe : va_A [(oc7 oM iM_thrown rM_tape iM_taped iM_size iM_at iM_end iM_token iM_whole iM_nameSize iM_fault iM_place iM_trouble rM_letters iM_failed iM_hasCourt rM_r rM_fresh rM_told rM_read rM_st rM_undone rM_kept iM_undos iM_images rM_fresher iM_fresherSize iM_scale iM_night rM_heardRow rM_cutRow iM_breaths iM_cutMany iM_allBreaths rM_trial rM_words iM_fewestBreaths iM_orderMany iM_orderSum iM_leastOrder rM_often iM_setMany iM_someOf iM_allOf iM_allWeight iM_enoughWeight iM_worthSum iM_firstRest iM_leastDrawn), (arI rM_r kM_r 287 fM_r), (arI rM_told kM_told 90 fM_told), (arI rM_st kM_st 90 fM_st)] s.heap.size = A at hD hE ⊢
  have hA : ∀ q : Nat, s.heap.size ≤ q → A q := fun q h => by rw [← hAe]; exact Or.inr h
  have hS : va_S A s.heap s.heap [] := va_S.rf
  have hl := lv_entry ([.ref oM, .int p0, .int p1]) (n := 4) (Nat.le_of_ble_eq_true rfl)
  rw [lg_entry_eq]
  generalize (lg_sl ([.ref oM, .int p0, .int p1]) ++ List.replicate (4 - (lg_sl ([.ref oM, .int p0, .int p1])).length) Slot.unset).toArray = ls at hl ⊢
  have hl : lv_has ls 4 [(0, .ref oM), (1, .int p0), (2, .int p1)] := hl
  have hG := PX7_night_eq iM_hasCourt fM_r fM_told fM_st iM_scale iM_night p0 p1
  have s_slips := r_R.slips
  have s_nodes := r_R.nodes
  have s_uns := r_R.uns
  refine lv_aload_n hx hb dX7_night_0 rfl (lv_at hl 0 rfl) ?_
  have hFc := va_free (wc := [(oc7 oM iM_thrown rM_tape iM_taped iM_size iM_at iM_end iM_token iM_whole iM_nameSize iM_fault iM_place iM_trouble rM_letters iM_failed iM_hasCourt rM_r rM_fresh rM_told rM_read rM_st rM_undone rM_kept iM_undos iM_images rM_fresher iM_fresherSize iM_scale iM_night rM_heardRow rM_cutRow iM_breaths iM_cutMany iM_allBreaths rM_trial rM_words iM_fewestBreaths iM_orderMany iM_orderSum iM_leastOrder rM_often iM_setMany iM_someOf iM_allOf iM_allWeight iM_enoughWeight iM_worthSum iM_firstRest iM_leastDrawn)]) hD hS hA [0] rfl
  refine va_callv (va_runV (As := []) (rest := []) ⟨hx, hb, hml, hown, hts⟩ (tX7_good l dC dI _ oM iM_thrown rM_tape iM_taped iM_size iM_at iM_end iM_token iM_whole iM_nameSize iM_fault iM_place iM_trouble rM_letters iM_failed iM_hasCourt rM_r rM_fresh rM_told rM_read rM_st rM_undone rM_kept iM_undos iM_images rM_fresher iM_fresherSize iM_scale iM_night rM_heardRow rM_cutRow iM_breaths iM_cutMany iM_allBreaths rM_trial rM_words iM_fewestBreaths iM_orderMany iM_orderSum iM_leastOrder rM_often iM_setMany iM_someOf iM_allOf iM_allWeight iM_enoughWeight iM_worthSum iM_firstRest iM_leastDrawn (by first | omega | decide) (by first | omega | decide) (by first | omega | decide) (by first | omega | decide) (by first | omega | decide) (by first | omega | decide) (by first | omega | decide) (by first | omega | decide) (by first | omega | decide) (by first | omega | decide)) (cwV 0 hts (wd_V wd_388 wd_389 wd_390 wd_5 (wd_c wd_391)) rfl rfl rfl (by decide +kernel) ⟨Nat.le_of_ble_eq_true rfl, Nat.le_of_ble_eq_true rfl⟩) ⟨Pw.fb, va_recv hK hP (ci := 7) (q0 := 0) rfl rfl, fun U hU hW => Pw.to (hP.sub [0] rfl) (hD.sub [0] (by decide) rfl) (hK.sub [] rfl) hE hS hFc hU hW⟩ rfl rfl hl.1 rfl (lv_room (Nat.le_of_ble_eq_true rfl)) dX7_night_1 ⟨Nat.le_of_ble_eq_true rfl, Nat.le_of_ble_eq_true rfl⟩) hS (fun q _ h => hFc q h) hFc (fun u t H locs ht hvm hw hB hz1 hk1 hS => ?_)
  obtain ⟨x_2167, x_2168, b_x_2167, b_x_2168, e_x_2167_0, hB⟩ := hB
  obtain ⟨hP, hD, hK⟩ := Bw.go (ws' := [(arI rM_r kM_r 287 fM_r), (arI rM_told kM_told 90 fM_told), (arI rM_st kM_st 90 fM_st), (oc7 oM x_2167 rM_tape iM_taped iM_size iM_at iM_end iM_token iM_whole iM_nameSize iM_fault iM_place x_2168 rM_letters iM_failed iM_hasCourt rM_r rM_fresh rM_told rM_read rM_st rM_undone rM_kept iM_undos iM_images rM_fresher iM_fresherSize iM_scale iM_night rM_heardRow rM_cutRow iM_breaths iM_cutMany iM_allBreaths rM_trial rM_words iM_fewestBreaths iM_orderMany iM_orderSum iM_leastOrder rM_often iM_setMany iM_someOf iM_allOf iM_allWeight iM_enoughWeight iM_worthSum iM_firstRest iM_leastDrawn)]) (tys' := [(kM_r, .int), (kM_told, .int), (kM_st, .int)]) hB rfl ht hvm hP hD hK [0] [1, 2, 3] rfl (by decide) (by decide) [0, 1, 2] hk1 hFc rfl rfl rfl
  clear hz1 hk1 hvm ht hB
  have hG := hG.trans (un2_eq e_x_2167_0)
  refine lv_aload_n hx hb dX7_night_4 rfl (lv_at hl 0 rfl) ?_
  refine lv_iload_n hx hb dX7_night_5 rfl (lv_at hl 1 rfl) ?_
  refine lv_iconst (v := 0) hx hb dX7_night_6 (by decide) ?_
  refine lv_bipush (v := 9) hx hb dX7_night_7 (by decide) ?_
  have hFc : ∀ q, va_A [] _ q → A q := fun q h => hA q (Nat.le_trans hS.1 (va_nilA h))
  refine va_calli (va_runS (As := [.int p0, .int 0, .int 9]) (rest := [.ref oM]) ⟨hx, hb, hml, hown, hts⟩ (tX7_in l dC dI _ p0 0 9 ) (va_cwS 3 hts (wd_S wd_393 wd_394 wd_5 (wd_c wd_395)) rfl rfl rfl (by decide +kernel) ⟨Nat.le_of_ble_eq_true rfl, Nat.le_of_ble_eq_true rfl⟩) ⟨Pw.fb, fun U hU hW => Pn.to hK hE hS hA hU hW⟩ rfl rfl hl.1 rfl (lv_room (Nat.le_of_ble_eq_true rfl)) dX7_night_9 ⟨Nat.le_of_ble_eq_true rfl, Nat.le_of_ble_eq_true rfl⟩) hS (fun q _ h => hFc q h) hFc (fun r u t H locs ht hvm hw hB hz1 hk1 hS => ?_)
  obtain ⟨hP, hD, hK⟩ := Bw.same ht hvm hP hD hK hk1 hFc
  clear hz1 hk1 hvm ht hB
  have hq9 := hw.2
  have hw := hw.1
  obtain ⟨x_2169, rfl⟩ : ∃ z, z = r := ⟨_, rfl⟩
  have hq_x_2169 := hq9
  have hG := hG.trans (lt_eq hq_x_2169.symm)
  have bx_2169 := hw.1
  have dx_2169 := bz_ti bx_2169
  have px_2169 := hw.2
  have hFc := va_free (wc := [(oc7 oM x_2167 rM_tape iM_taped iM_size iM_at iM_end iM_token iM_whole iM_nameSize iM_fault iM_place x_2168 rM_letters iM_failed iM_hasCourt rM_r rM_fresh rM_told rM_read rM_st rM_undone rM_kept iM_undos iM_images rM_fresher iM_fresherSize iM_scale iM_night rM_heardRow rM_cutRow iM_breaths iM_cutMany iM_allBreaths rM_trial rM_words iM_fewestBreaths iM_orderMany iM_orderSum iM_leastOrder rM_often iM_setMany iM_someOf iM_allOf iM_allWeight iM_enoughWeight iM_worthSum iM_firstRest iM_leastDrawn), (arI rM_r kM_r 287 fM_r)]) hD hS hA [3, 0] rfl
  refine va_calli (va_runV (As := [.int x_2169]) (rest := []) ⟨hx, hb, hml, hown, hts⟩ (tX7_why l dC dI _ oM x_2167 rM_tape iM_taped iM_size iM_at iM_end iM_token iM_whole iM_nameSize iM_fault iM_place x_2168 rM_letters iM_failed iM_hasCourt rM_r fM_r kM_r rM_fresh rM_told rM_read rM_st rM_undone rM_kept iM_undos iM_images rM_fresher iM_fresherSize iM_scale iM_night rM_heardRow rM_cutRow iM_breaths iM_cutMany iM_allBreaths rM_trial rM_words iM_fewestBreaths iM_orderMany iM_orderSum iM_leastOrder rM_often iM_setMany iM_someOf iM_allOf iM_allWeight iM_enoughWeight iM_worthSum iM_firstRest iM_leastDrawn x_2169 (by first | omega | decide) (by first | omega | decide) (by first | omega | decide) (by first | omega | decide) (by first | omega | decide) (by first | omega | decide) (by first | omega | decide) (by first | omega | decide) (by first | omega | decide) (by first | omega | decide) (by assumption) (by assumption) (by first | omega | decide | assumption | (have q0 := kc_0; have q1 := kc_1; omega) | (intro h; exact absurd h (by decide)))) (cwV 1 hts (wd_V wd_882 wd_883 wd_884 wd_5 (wd_c wd_885)) rfl rfl rfl (by decide +kernel) ⟨Nat.le_of_ble_eq_true rfl, Nat.le_of_ble_eq_true rfl⟩) ⟨Pw.fb, va_recv hK hP (ci := 7) (q0 := 3) rfl rfl, fun U hU hW => Pw.to (hP.sub [3, 0] rfl) (hD.sub [3, 0] (by decide) rfl) (hK.sub [0] rfl) hE hS hFc hU hW⟩ rfl rfl hl.1 rfl (lv_room (Nat.le_of_ble_eq_true rfl)) dX7_night_12 ⟨Nat.le_of_ble_eq_true rfl, Nat.le_of_ble_eq_true rfl⟩) hS (fun q _ h => hFc q h) hFc (fun r u t H locs ht hvm hw hB hz1 hk1 hS => ?_)
  have hru9 := hw.2
  have hw := hw.1
  obtain ⟨hP, hD, hK⟩ := Bw.go (ws' := [(arI rM_told kM_told 90 fM_told), (arI rM_st kM_st 90 fM_st), (oc7 oM x_2167 rM_tape iM_taped iM_size iM_at iM_end iM_token iM_whole iM_nameSize iM_fault iM_place x_2168 rM_letters iM_failed iM_hasCourt rM_r rM_fresh rM_told rM_read rM_st rM_undone rM_kept iM_undos iM_images rM_fresher iM_fresherSize iM_scale iM_night rM_heardRow rM_cutRow iM_breaths iM_cutMany iM_allBreaths rM_trial rM_words iM_fewestBreaths iM_orderMany iM_orderSum iM_leastOrder rM_often iM_setMany iM_someOf iM_allOf iM_allWeight iM_enoughWeight iM_worthSum iM_firstRest iM_leastDrawn), (arI rM_r kM_r 287 fM_r)]) (tys' := [(kM_told, .int), (kM_st, .int), (kM_r, .int)]) hB rfl ht hvm hP hD hK [3, 0] [1, 2] rfl (by decide) (by decide) [1, 2] hk1 hFc rfl rfl rfl
  clear hz1 hk1 hvm ht hB
  rcases hw.2 with ⟨rfl, hc_2170⟩ | ⟨rfl, hc_2170⟩ | ⟨rfl, hc_2170⟩
  · skip
    have hG := hG.trans (lt_eq hru9.symm)
    have hG := hG.trans (if_pos rfl)
    refine lv_istore_n (lv' := [(3, .int 0), (0, .ref oM), (1, .int p0), (2, .int p1)]) hx hb dX7_night_15 rfl hl (by decide) rfl (fun ls hl => ?_)
    refine lv_iload_n hx hb dX7_night_16 rfl (lv_at hl 0 rfl) ?_
    refine lv_if_eq (tgt := 29) hx hb dX7_night_17 (by decide) (fun _ => ?_) (fun c => absurd c (by decide))
    refine lv_aload_n hx hb dX7_night_29 rfl (lv_at hl 1 rfl) ?_
    refine lv_iload_n hx hb dX7_night_30 rfl (lv_at hl 2 rfl) ?_
    have hFc := va_free (wc := [(oc7 oM x_2167 rM_tape iM_taped iM_size iM_at iM_end iM_token iM_whole iM_nameSize iM_fault iM_place x_2168 rM_letters iM_failed iM_hasCourt rM_r rM_fresh rM_told rM_read rM_st rM_undone rM_kept iM_undos iM_images rM_fresher iM_fresherSize iM_scale iM_night rM_heardRow rM_cutRow iM_breaths iM_cutMany iM_allBreaths rM_trial rM_words iM_fewestBreaths iM_orderMany iM_orderSum iM_leastOrder rM_often iM_setMany iM_someOf iM_allOf iM_allWeight iM_enoughWeight iM_worthSum iM_firstRest iM_leastDrawn), (arI rM_r kM_r 287 fM_r), (arI rM_told kM_told 90 fM_told), (arI rM_st kM_st 90 fM_st)]) hD hS hA [2, 3, 0, 1] rfl
    refine va_calli (va_runV (As := [.int p0]) (rest := []) ⟨hx, hb, hml, hown, hts⟩ (tX7_throneAt l dC dI _ oM x_2167 rM_tape iM_taped iM_size iM_at iM_end iM_token iM_whole iM_nameSize iM_fault iM_place x_2168 rM_letters iM_failed iM_hasCourt rM_r fM_r kM_r rM_fresh rM_told fM_told kM_told rM_read rM_st fM_st kM_st rM_undone rM_kept iM_undos iM_images rM_fresher iM_fresherSize iM_scale iM_night rM_heardRow rM_cutRow iM_breaths iM_cutMany iM_allBreaths rM_trial rM_words iM_fewestBreaths iM_orderMany iM_orderSum iM_leastOrder rM_often iM_setMany iM_someOf iM_allOf iM_allWeight iM_enoughWeight iM_worthSum iM_firstRest iM_leastDrawn p0 (by first | omega | decide) (by first | omega | decide) (by first | omega | decide) (by first | omega | decide) (by first | omega | decide) (by first | omega | decide) (by first | omega | decide) (by first | omega | decide) (by first | omega | decide) (by first | omega | decide) (by assumption) (by assumption) (by assumption) (by assumption) (by assumption) (by first | omega | decide | assumption | (have q0 := kc_0; have q1 := kc_1; omega) | (intro h; exact absurd h (by decide)))) (cwV 1 hts (wd_V wd_1100 wd_1101 wd_1102 wd_5 (wd_c wd_1103)) rfl rfl rfl (by decide +kernel) ⟨Nat.le_of_ble_eq_true rfl, Nat.le_of_ble_eq_true rfl⟩) ⟨Pw.fb, va_recv hK hP (ci := 7) (q0 := 2) rfl rfl, fun U hU hW => Pw.to (hP.sub [2, 3, 0, 1] rfl) (hD.sub [2, 3, 0, 1] (by decide) rfl) (hK.sub [2, 0, 1] rfl) hE hS hFc hU hW⟩ rfl rfl hl.1 rfl (lv_room (Nat.le_of_ble_eq_true rfl)) dX7_night_31 ⟨Nat.le_of_ble_eq_true rfl, Nat.le_of_ble_eq_true rfl⟩) hS (fun q _ h => hFc q h) hFc (fun r u t H locs ht hvm hw hB hz1 hk1 hS => ?_)
    have hru9 := hw.2
    have hw := hw.1
    obtain ⟨x_2173, b_x_2173, e_x_2173_0, hB⟩ := hB
    obtain ⟨hP, hD, hK⟩ := Bw.go (ws' := [(oc7 oM x_2167 rM_tape iM_taped iM_size iM_at iM_end iM_token iM_whole iM_nameSize iM_fault iM_place x_2168 rM_letters iM_failed iM_hasCourt rM_r rM_fresh rM_told rM_read rM_st rM_undone rM_kept iM_undos iM_images rM_fresher iM_fresherSize iM_scale x_2173 rM_heardRow rM_cutRow iM_breaths iM_cutMany iM_allBreaths rM_trial rM_words iM_fewestBreaths iM_orderMany iM_orderSum iM_leastOrder rM_often iM_setMany iM_someOf iM_allOf iM_allWeight iM_enoughWeight iM_worthSum iM_firstRest iM_leastDrawn), (arI rM_r kM_r 287 fM_r), (arI rM_told kM_told 90 fM_told), (arI rM_st kM_st 90 fM_st)]) (tys' := [(kM_r, .int), (kM_told, .int), (kM_st, .int)]) hB rfl ht hvm hP hD hK [2, 3, 0, 1] [] rfl (by decide) (by decide) [] hk1 hFc rfl rfl rfl
    clear hz1 hk1 hvm ht hB
    rw [← hru9] at e_x_2173_0
    obtain ⟨x_2174, rfl⟩ : ∃ z, z = r := ⟨_, rfl⟩
    have hG := hG.trans (un2_eq e_x_2173_0)
    obtain ⟨y_2175, ey_2175⟩ : ∃ z : Int64, z = (x_2174 : Int32).toInt64 := ⟨_, rfl⟩
    have hG := hG.trans (lt_eq ey_2175)
    refine lv_i2l (v := y_2175) hx hb dX7_night_34 ey_2175.symm ?_
    refine lv_aload_n hx hb dX7_night_35 rfl (lv_at hl 1 rfl) ?_
    refine va_get (D := (dC, dI)) (ci := 7) (v := .int iM_scale) (C := RX7) (T := TX7) (N := 48) hx hb hts inX7 hown hK hP 0 rfl rfl 26 (by decide) (hts _ wd_163) (fun _ h9 => h9) rfl dX7_night_36 ?_
    obtain ⟨y_2176, ey_2176⟩ : ∃ z : Int64, z = (iM_scale : Int32).toInt64 := ⟨_, rfl⟩
    have hG := hG.trans (lt_eq ey_2176)
    refine lv_i2l (v := y_2176) hx hb dX7_night_39 ey_2176.symm ?_
    have nz_y_2176 := i2l_nz ey_2176 (by omega)
    refine lv_iload_n hx hb dX7_night_40 rfl (lv_at hl 3 rfl) ?_
    have hFc : ∀ q, va_A [] _ q → A q := fun q h => hA q (Nat.le_trans hS.1 (va_nilA h))
    refine va_calll (va_runS (As := [.long y_2175, .long y_2176, .int p1]) (rest := []) ⟨hx, hb, hml, hown, hts⟩ (tX7_lowest l dC dI _ y_2175 y_2176 p1 nz_y_2176) (va_cwS 3 hts (wd_S wd_655 wd_656 wd_5 (wd_c wd_657)) rfl rfl rfl (by decide +kernel) ⟨Nat.le_of_ble_eq_true rfl, Nat.le_of_ble_eq_true rfl⟩) ⟨Pw.fb, fun U hU hW => Pn.to hK hE hS hA hU hW⟩ rfl rfl hl.1 rfl (lv_room (Nat.le_of_ble_eq_true rfl)) dX7_night_41 ⟨Nat.le_of_ble_eq_true rfl, Nat.le_of_ble_eq_true rfl⟩) hS (fun q _ h => hFc q h) hFc (fun r u t H locs ht hvm hw hB hz1 hk1 hS => ?_)
    obtain ⟨hP, hD, hK⟩ := Bw.same ht hvm hP hD hK hk1 hFc
    clear hz1 hk1 hvm ht hB
    have hq9 := hw.2
    have hw := hw.1
    obtain ⟨y_2177, rfl⟩ : ∃ z, z = r := ⟨_, rfl⟩
    have hq_y_2177 := hq9
    have hG := hG.trans (lt_eq hq_y_2177.symm)
    exact W.lret hx hb hr (fun t ht hW => ⟨⟨_, (cL y_2177), rfl, ⟨⟨trivial, trivial⟩, (cL_of y_2177)⟩, ⟨x_2167, x_2168, x_2173, (by first | omega | decide | assumption), (cL_tup hG), Bw.to (hP.sub [0, 1, 2, 3] rfl) (hD.sub [0, 1, 2, 3] (by decide) rfl) (hK.sub [0, 1, 2] rfl) ht hW⟩⟩, hS.F ht⟩) hS.2.2 dX7_night_44
  · skip
    have hG := hG.trans (lt_eq hru9.symm)
    have hG := hG.trans (if_neg (by decide))
    have hG := hG.trans (if_pos rfl)
    refine lv_istore_n (lv' := [(3, .int 1), (0, .ref oM), (1, .int p0), (2, .int p1)]) hx hb dX7_night_15 rfl hl (by decide) rfl (fun ls hl => ?_)
    refine lv_iload_n hx hb dX7_night_16 rfl (lv_at hl 0 rfl) ?_
    refine lv_if_eq (tgt := 29) hx hb dX7_night_17 (by decide) (fun c => absurd c (by decide)) (fun _ => ?_)
    refine lv_aload_n hx hb dX7_night_20 rfl (lv_at hl 1 rfl) ?_
    refine lv_iload_n hx hb dX7_night_21 rfl (lv_at hl 0 rfl) ?_
    have hFc := va_free (wc := [(oc7 oM x_2167 rM_tape iM_taped iM_size iM_at iM_end iM_token iM_whole iM_nameSize iM_fault iM_place x_2168 rM_letters iM_failed iM_hasCourt rM_r rM_fresh rM_told rM_read rM_st rM_undone rM_kept iM_undos iM_images rM_fresher iM_fresherSize iM_scale iM_night rM_heardRow rM_cutRow iM_breaths iM_cutMany iM_allBreaths rM_trial rM_words iM_fewestBreaths iM_orderMany iM_orderSum iM_leastOrder rM_often iM_setMany iM_someOf iM_allOf iM_allWeight iM_enoughWeight iM_worthSum iM_firstRest iM_leastDrawn)]) hD hS hA [2] rfl
    refine va_calli (va_runV (As := [.int 1]) (rest := []) ⟨hx, hb, hml, hown, hts⟩ (tX7_no l dC dI _ oM x_2167 rM_tape iM_taped iM_size iM_at iM_end iM_token iM_whole iM_nameSize iM_fault iM_place x_2168 rM_letters iM_failed iM_hasCourt rM_r rM_fresh rM_told rM_read rM_st rM_undone rM_kept iM_undos iM_images rM_fresher iM_fresherSize iM_scale iM_night rM_heardRow rM_cutRow iM_breaths iM_cutMany iM_allBreaths rM_trial rM_words iM_fewestBreaths iM_orderMany iM_orderSum iM_leastOrder rM_often iM_setMany iM_someOf iM_allOf iM_allWeight iM_enoughWeight iM_worthSum iM_firstRest iM_leastDrawn 1 (by first | omega | decide) (by first | omega | decide) (by first | omega | decide) (by first | omega | decide) (by first | omega | decide) (by first | omega | decide) (by first | omega | decide) (by first | omega | decide) (by first | omega | decide) (by first | omega | decide)) (cwV 1 hts (wd_V wd_396 wd_397 wd_398 wd_5 (wd_c wd_399)) rfl rfl rfl (by decide +kernel) ⟨Nat.le_of_ble_eq_true rfl, Nat.le_of_ble_eq_true rfl⟩) ⟨Pw.fb, va_recv hK hP (ci := 7) (q0 := 2) rfl rfl, fun U hU hW => Pw.to (hP.sub [2] rfl) (hD.sub [2] (by decide) rfl) (hK.sub [] rfl) hE hS hFc hU hW⟩ rfl rfl hl.1 rfl (lv_room (Nat.le_of_ble_eq_true rfl)) dX7_night_22 ⟨Nat.le_of_ble_eq_true rfl, Nat.le_of_ble_eq_true rfl⟩) hS (fun q _ h => hFc q h) hFc (fun r u t H locs ht hvm hw hB hz1 hk1 hS => ?_)
    have hru9 := hw.2
    have hw := hw.1
    obtain ⟨x_2179, e_x_2179_0, hB⟩ := hB
    obtain ⟨hP, hD, hK⟩ := Bw.go (ws' := [(arI rM_told kM_told 90 fM_told), (arI rM_st kM_st 90 fM_st), (arI rM_r kM_r 287 fM_r), (oc7 oM x_2167 rM_tape iM_taped iM_size iM_at iM_end iM_token iM_whole iM_nameSize iM_fault iM_place x_2179 rM_letters iM_failed iM_hasCourt rM_r rM_fresh rM_told rM_read rM_st rM_undone rM_kept iM_undos iM_images rM_fresher iM_fresherSize iM_scale iM_night rM_heardRow rM_cutRow iM_breaths iM_cutMany iM_allBreaths rM_trial rM_words iM_fewestBreaths iM_orderMany iM_orderSum iM_leastOrder rM_often iM_setMany iM_someOf iM_allOf iM_allWeight iM_enoughWeight iM_worthSum iM_firstRest iM_leastDrawn)]) (tys' := [(kM_told, .int), (kM_st, .int), (kM_r, .int)]) hB rfl ht hvm hP hD hK [2] [0, 1, 3] rfl (by decide) (by decide) [0, 1, 2] hk1 hFc rfl rfl rfl
    clear hz1 hk1 hvm ht hB
    rw [← hru9] at e_x_2179_0
    obtain ⟨x_2180, rfl⟩ : ∃ z, z = r := ⟨_, rfl⟩
    have hG := hG.trans (un2_eq e_x_2179_0)
    obtain ⟨y_2181, ey_2181⟩ : ∃ z : Int64, z = (x_2180 : Int32).toInt64 := ⟨_, rfl⟩
    have hG := hG.trans (lt_eq ey_2181)
    refine lv_i2l (v := y_2181) hx hb dX7_night_25 ey_2181.symm ?_
    refine lv_goto (tgt := 44) hx hb dX7_night_26 (by decide) ?_
    exact W.lret hx hb hr (fun t ht hW => ⟨⟨_, (cL y_2181), rfl, ⟨⟨trivial, trivial⟩, (cL_of y_2181)⟩, ⟨x_2167, x_2179, iM_night, (by first | omega | decide | assumption), (cL_tup hG), Bw.to (hP.sub [3, 2, 0, 1] rfl) (hD.sub [3, 2, 0, 1] (by decide) rfl) (hK.sub [2, 0, 1] rfl) ht hW⟩⟩, hS.F ht⟩) hS.2.2 dX7_night_44
  · skip
    have hG := hG.trans (lt_eq hru9.symm)
    have hG := hG.trans (if_neg (by decide))
    have hG := hG.trans (if_neg (by decide))
    refine lv_istore_n (lv' := [(3, .int 2), (0, .ref oM), (1, .int p0), (2, .int p1)]) hx hb dX7_night_15 rfl hl (by decide) rfl (fun ls hl => ?_)
    refine lv_iload_n hx hb dX7_night_16 rfl (lv_at hl 0 rfl) ?_
    refine lv_if_eq (tgt := 29) hx hb dX7_night_17 (by decide) (fun c => absurd c (by decide)) (fun _ => ?_)
    refine lv_aload_n hx hb dX7_night_20 rfl (lv_at hl 1 rfl) ?_
    refine lv_iload_n hx hb dX7_night_21 rfl (lv_at hl 0 rfl) ?_
    have hFc := va_free (wc := [(oc7 oM x_2167 rM_tape iM_taped iM_size iM_at iM_end iM_token iM_whole iM_nameSize iM_fault iM_place x_2168 rM_letters iM_failed iM_hasCourt rM_r rM_fresh rM_told rM_read rM_st rM_undone rM_kept iM_undos iM_images rM_fresher iM_fresherSize iM_scale iM_night rM_heardRow rM_cutRow iM_breaths iM_cutMany iM_allBreaths rM_trial rM_words iM_fewestBreaths iM_orderMany iM_orderSum iM_leastOrder rM_often iM_setMany iM_someOf iM_allOf iM_allWeight iM_enoughWeight iM_worthSum iM_firstRest iM_leastDrawn)]) hD hS hA [2] rfl
    refine va_calli (va_runV (As := [.int 2]) (rest := []) ⟨hx, hb, hml, hown, hts⟩ (tX7_no l dC dI _ oM x_2167 rM_tape iM_taped iM_size iM_at iM_end iM_token iM_whole iM_nameSize iM_fault iM_place x_2168 rM_letters iM_failed iM_hasCourt rM_r rM_fresh rM_told rM_read rM_st rM_undone rM_kept iM_undos iM_images rM_fresher iM_fresherSize iM_scale iM_night rM_heardRow rM_cutRow iM_breaths iM_cutMany iM_allBreaths rM_trial rM_words iM_fewestBreaths iM_orderMany iM_orderSum iM_leastOrder rM_often iM_setMany iM_someOf iM_allOf iM_allWeight iM_enoughWeight iM_worthSum iM_firstRest iM_leastDrawn 2 (by first | omega | decide) (by first | omega | decide) (by first | omega | decide) (by first | omega | decide) (by first | omega | decide) (by first | omega | decide) (by first | omega | decide) (by first | omega | decide) (by first | omega | decide) (by first | omega | decide)) (cwV 1 hts (wd_V wd_396 wd_397 wd_398 wd_5 (wd_c wd_399)) rfl rfl rfl (by decide +kernel) ⟨Nat.le_of_ble_eq_true rfl, Nat.le_of_ble_eq_true rfl⟩) ⟨Pw.fb, va_recv hK hP (ci := 7) (q0 := 2) rfl rfl, fun U hU hW => Pw.to (hP.sub [2] rfl) (hD.sub [2] (by decide) rfl) (hK.sub [] rfl) hE hS hFc hU hW⟩ rfl rfl hl.1 rfl (lv_room (Nat.le_of_ble_eq_true rfl)) dX7_night_22 ⟨Nat.le_of_ble_eq_true rfl, Nat.le_of_ble_eq_true rfl⟩) hS (fun q _ h => hFc q h) hFc (fun r u t H locs ht hvm hw hB hz1 hk1 hS => ?_)
    have hru9 := hw.2
    have hw := hw.1
    obtain ⟨x_2183, e_x_2183_0, hB⟩ := hB
    obtain ⟨hP, hD, hK⟩ := Bw.go (ws' := [(arI rM_told kM_told 90 fM_told), (arI rM_st kM_st 90 fM_st), (arI rM_r kM_r 287 fM_r), (oc7 oM x_2167 rM_tape iM_taped iM_size iM_at iM_end iM_token iM_whole iM_nameSize iM_fault iM_place x_2183 rM_letters iM_failed iM_hasCourt rM_r rM_fresh rM_told rM_read rM_st rM_undone rM_kept iM_undos iM_images rM_fresher iM_fresherSize iM_scale iM_night rM_heardRow rM_cutRow iM_breaths iM_cutMany iM_allBreaths rM_trial rM_words iM_fewestBreaths iM_orderMany iM_orderSum iM_leastOrder rM_often iM_setMany iM_someOf iM_allOf iM_allWeight iM_enoughWeight iM_worthSum iM_firstRest iM_leastDrawn)]) (tys' := [(kM_told, .int), (kM_st, .int), (kM_r, .int)]) hB rfl ht hvm hP hD hK [2] [0, 1, 3] rfl (by decide) (by decide) [0, 1, 2] hk1 hFc rfl rfl rfl
    clear hz1 hk1 hvm ht hB
    rw [← hru9] at e_x_2183_0
    obtain ⟨x_2184, rfl⟩ : ∃ z, z = r := ⟨_, rfl⟩
    have hG := hG.trans (un2_eq e_x_2183_0)
    obtain ⟨y_2185, ey_2185⟩ : ∃ z : Int64, z = (x_2184 : Int32).toInt64 := ⟨_, rfl⟩
    have hG := hG.trans (lt_eq ey_2185)
    refine lv_i2l (v := y_2185) hx hb dX7_night_25 ey_2185.symm ?_
    refine lv_goto (tgt := 44) hx hb dX7_night_26 (by decide) ?_
    exact W.lret hx hb hr (fun t ht hW => ⟨⟨_, (cL y_2185), rfl, ⟨⟨trivial, trivial⟩, (cL_of y_2185)⟩, ⟨x_2167, x_2183, iM_night, (by first | omega | decide | assumption), (cL_tup hG), Bw.to (hP.sub [3, 2, 0, 1] rfl) (hD.sub [3, 2, 0, 1] (by decide) rfl) (hK.sub [2, 0, 1] rfl) ht hW⟩⟩, hS.F ht⟩) hS.2.2 dX7_night_44
set_option maxHeartbeats 4000000 in
set_option maxRecDepth 100000 in
theorem tX7_settles (l : Launch) (dC : Nat → ClassId) (dI : Nat → Nat → Nat) (sz : Nat) (oM : Nat) (iM_thrown : Int32) (rM_tape : Nat) (iM_taped : Int32) (iM_size : Int32) (iM_at : Int32) (iM_end : Int32) (iM_token : Int32) (iM_whole : Int32) (iM_nameSize : Int32) (iM_fault : Int32) (iM_place : Int32) (iM_trouble : Int32) (rM_letters : Nat) (iM_failed : Int32) (iM_hasCourt : Int32) (rM_r : Nat) (fM_r : Nat → Int32) (kM_r : ClassId) (rM_fresh : Nat) (rM_told : Nat) (fM_told : Nat → Int32) (kM_told : ClassId) (rM_read : Nat) (rM_st : Nat) (fM_st : Nat → Int32) (kM_st : ClassId) (rM_undone : Nat) (rM_kept : Nat) (iM_undos : Int32) (iM_images : Int32) (rM_fresher : Nat) (iM_fresherSize : Int32) (iM_scale : Int32) (iM_night : Int32) (rM_heardRow : Nat) (rM_cutRow : Nat) (iM_breaths : Int32) (iM_cutMany : Int32) (iM_allBreaths : Int32) (rM_trial : Nat) (rM_words : Nat) (iM_fewestBreaths : Int32) (iM_orderMany : Int32) (iM_orderSum : Int32) (iM_leastOrder : Int32) (rM_often : Nat) (iM_setMany : Int32) (iM_someOf : Int32) (iM_allOf : Int32) (iM_allWeight : Int64) (iM_enoughWeight : Int64) (iM_worthSum : Int64) (iM_firstRest : Int32) (iM_leastDrawn : Int32) (b_iM_taped : 0 ≤ iM_taped.toInt ∧ iM_taped.toInt ≤ 900) (b_iM_size : 0 ≤ iM_size.toInt ∧ iM_size.toInt ≤ 900) (b_iM_end : 0 ≤ iM_end.toInt ∧ iM_end.toInt ≤ 900) (b_iM_failed : 0 ≤ iM_failed.toInt ∧ iM_failed.toInt ≤ 1) (b_iM_hasCourt : 0 ≤ iM_hasCourt.toInt ∧ iM_hasCourt.toInt ≤ 1) (b_iM_undos : 0 ≤ iM_undos.toInt ∧ iM_undos.toInt ≤ 16) (b_iM_images : 0 ≤ iM_images.toInt ∧ iM_images.toInt ≤ 3) (b_iM_scale : 1 ≤ iM_scale.toInt ∧ iM_scale.toInt ≤ 1296) (b_iM_breaths : 0 ≤ iM_breaths.toInt ∧ iM_breaths.toInt ≤ 399) (b_iM_cutMany : 0 ≤ iM_cutMany.toInt ∧ iM_cutMany.toInt ≤ 399) (r_R : ROk fM_r) (r_C : iM_hasCourt.toInt ≤ 0 ∨ (1 ≤ (fM_r 1).toInt ∧ 0 ≤ (fM_r 6).toInt ∧ (fM_r 6).toInt < (fM_r 1).toInt)) (r_st : RowOk fM_r fM_st) (r_told : RowOk fM_r fM_told) (r_wst : WorOk fM_st) (hnt : iM_night.toInt = -1) : Met l yX7_settles (Cond.code yX7_settles cX7_settles 2 (some .int) :: wG) ({ frames := 23, cells := 0, slots := 0, locals := 607 }) (va_Pc [.ref oM] (Pw dC dI sz [(oc7 oM iM_thrown rM_tape iM_taped iM_size iM_at iM_end iM_token iM_whole iM_nameSize iM_fault iM_place iM_trouble rM_letters iM_failed iM_hasCourt rM_r rM_fresh rM_told rM_read rM_st rM_undone rM_kept iM_undos iM_images rM_fresher iM_fresherSize iM_scale iM_night rM_heardRow rM_cutRow iM_breaths iM_cutMany iM_allBreaths rM_trial rM_words iM_fewestBreaths iM_orderMany iM_orderSum iM_leastOrder rM_often iM_setMany iM_someOf iM_allOf iM_allWeight iM_enoughWeight iM_worthSum iM_firstRest iM_leastDrawn), (arI rM_r kM_r 287 fM_r), (arI rM_told kM_told 90 fM_told), (arI rM_st kM_st 90 fM_st)] [(kM_r, .int), (kM_told, .int), (kM_st, .int)])) (va_Qi (fun (r : Int32) (u : Nat) => (True ∧ True) ∧ r = Int32.ofNat u) (fun (u : Nat) (t : State) => ∃ (niM_thrown : Int32) (niM_trouble : Int32) (niM_night : Int32), (niM_night.toInt = -1) ∧ (PX7_settles iM_hasCourt fM_r fM_told fM_st iM_scale iM_night = (Int32.ofNat u, niM_thrown, niM_trouble, niM_night)) ∧ Bw dC dI (va_A [(oc7 oM iM_thrown rM_tape iM_taped iM_size iM_at iM_end iM_token iM_whole iM_nameSize iM_fault iM_place iM_trouble rM_letters iM_failed iM_hasCourt rM_r rM_fresh rM_told rM_read rM_st rM_undone rM_kept iM_undos iM_images rM_fresher iM_fresherSize iM_scale iM_night rM_heardRow rM_cutRow iM_breaths iM_cutMany iM_allBreaths rM_trial rM_words iM_fewestBreaths iM_orderMany iM_orderSum iM_leastOrder rM_often iM_setMany iM_someOf iM_allOf iM_allWeight iM_enoughWeight iM_worthSum iM_firstRest iM_leastDrawn), (arI rM_r kM_r 287 fM_r), (arI rM_told kM_told 90 fM_told), (arI rM_st kM_st 90 fM_st)] sz) [(oc7 oM niM_thrown rM_tape iM_taped iM_size iM_at iM_end iM_token iM_whole iM_nameSize iM_fault iM_place niM_trouble rM_letters iM_failed iM_hasCourt rM_r rM_fresh rM_told rM_read rM_st rM_undone rM_kept iM_undos iM_images rM_fresher iM_fresherSize iM_scale niM_night rM_heardRow rM_cutRow iM_breaths iM_cutMany iM_allBreaths rM_trial rM_words iM_fewestBreaths iM_orderMany iM_orderSum iM_leastOrder rM_often iM_setMany iM_someOf iM_allOf iM_allWeight iM_enoughWeight iM_worthSum iM_firstRest iM_leastDrawn), (arI rM_r kM_r 287 fM_r), (arI rM_told kM_told 90 fM_told), (arI rM_st kM_st 90 fM_st)] [(kM_r, .int), (kM_told, .int), (kM_st, .int)] t) (va_A [(oc7 oM iM_thrown rM_tape iM_taped iM_size iM_at iM_end iM_token iM_whole iM_nameSize iM_fault iM_place iM_trouble rM_letters iM_failed iM_hasCourt rM_r rM_fresh rM_told rM_read rM_st rM_undone rM_kept iM_undos iM_images rM_fresher iM_fresherSize iM_scale iM_night rM_heardRow rM_cutRow iM_breaths iM_cutMany iM_allBreaths rM_trial rM_words iM_fewestBreaths iM_orderMany iM_orderSum iM_leastOrder rM_often iM_setMany iM_someOf iM_allOf iM_allWeight iM_enoughWeight iM_worthSum iM_firstRest iM_leastDrawn), (arI rM_r kM_r 287 fM_r), (arI rM_told kM_told 90 fM_told), (arI rM_st kM_st 90 fM_st)] sz)) 0 0 (va_A [(oc7 oM iM_thrown rM_tape iM_taped iM_size iM_at iM_end iM_token iM_whole iM_nameSize iM_fault iM_place iM_trouble rM_letters iM_failed iM_hasCourt rM_r rM_fresh rM_told rM_read rM_st rM_undone rM_kept iM_undos iM_images rM_fresher iM_fresherSize iM_scale iM_night rM_heardRow rM_cutRow iM_breaths iM_cutMany iM_allBreaths rM_trial rM_words iM_fewestBreaths iM_orderMany iM_orderSum iM_leastOrder rM_often iM_setMany iM_someOf iM_allOf iM_allWeight iM_enoughWeight iM_worthSum iM_firstRest iM_leastDrawn), (arI rM_r kM_r 287 fM_r), (arI rM_told kM_told 90 fM_told), (arI rM_st kM_st 90 fM_st)] sz) := by
  refine Met.ofW (cc := cX7_settles) (maxL := 2) (ret := (some .int)) (by decide) rfl ?_
  intro p e s m args below meth c s₁ B hml hv
  obtain ⟨rfl, hsz, hP, hK, hD0, hE⟩ := hv
  have hx := B.exec
  have hb := B.bytes
  have hr := B.returns
  have hts : ∀ w ∈ wG, w.before ([.ref oM] : List Value).toArray s = true := fun w h => atoms_spec (ws := Cond.code yX7_settles cX7_settles 2 (some .int) :: wG) B.pre w (List.mem_cons_of_mem _ h)
  have hown : s.vm.findClass RX7 = some m.cls := findClass_of_methodNamed B.named
  have hlocks := B.notSynchronized
  subst hsz
  have hD := hD0.self (sz := s.heap.size)
  generalize hAe : va_A [(oc7 oM iM_thrown rM_tape iM_taped iM_size iM_at iM_end iM_token iM_whole iM_nameSize iM_fault iM_place iM_trouble rM_letters iM_failed iM_hasCourt rM_r rM_fresh rM_told rM_read rM_st rM_undone rM_kept iM_undos iM_images rM_fresher iM_fresherSize iM_scale iM_night rM_heardRow rM_cutRow iM_breaths iM_cutMany iM_allBreaths rM_trial rM_words iM_fewestBreaths iM_orderMany iM_orderSum iM_leastOrder rM_often iM_setMany iM_someOf iM_allOf iM_allWeight iM_enoughWeight iM_worthSum iM_firstRest iM_leastDrawn), (arI rM_r kM_r 287 fM_r), (arI rM_told kM_told 90 fM_told), (arI rM_st kM_st 90 fM_st)] s.heap.size = A at hD hE ⊢
  have hA : ∀ q : Nat, s.heap.size ≤ q → A q := fun q h => by rw [← hAe]; exact Or.inr h
  have hS : va_S A s.heap s.heap [] := va_S.rf
  have hl := lv_entry ([.ref oM]) (n := 2) (Nat.le_of_ble_eq_true rfl)
  rw [lg_entry_eq]
  generalize (lg_sl ([.ref oM]) ++ List.replicate (2 - (lg_sl ([.ref oM])).length) Slot.unset).toArray = ls at hl ⊢
  have hl : lv_has ls 2 [(0, .ref oM)] := hl
  have hG := PX7_settles_eq iM_hasCourt fM_r fM_told fM_st iM_scale iM_night
  have s_slips := r_R.slips
  have s_nodes := r_R.nodes
  have s_uns := r_R.uns
  refine lv_aload_n hx hb dX7_settles_0 rfl (lv_at hl 0 rfl) ?_
  have hFc := va_free (wc := [(oc7 oM iM_thrown rM_tape iM_taped iM_size iM_at iM_end iM_token iM_whole iM_nameSize iM_fault iM_place iM_trouble rM_letters iM_failed iM_hasCourt rM_r rM_fresh rM_told rM_read rM_st rM_undone rM_kept iM_undos iM_images rM_fresher iM_fresherSize iM_scale iM_night rM_heardRow rM_cutRow iM_breaths iM_cutMany iM_allBreaths rM_trial rM_words iM_fewestBreaths iM_orderMany iM_orderSum iM_leastOrder rM_often iM_setMany iM_someOf iM_allOf iM_allWeight iM_enoughWeight iM_worthSum iM_firstRest iM_leastDrawn)]) hD hS hA [0] rfl
  refine va_callv (va_runV (As := []) (rest := []) ⟨hx, hb, hml, hown, hts⟩ (tX7_good l dC dI _ oM iM_thrown rM_tape iM_taped iM_size iM_at iM_end iM_token iM_whole iM_nameSize iM_fault iM_place iM_trouble rM_letters iM_failed iM_hasCourt rM_r rM_fresh rM_told rM_read rM_st rM_undone rM_kept iM_undos iM_images rM_fresher iM_fresherSize iM_scale iM_night rM_heardRow rM_cutRow iM_breaths iM_cutMany iM_allBreaths rM_trial rM_words iM_fewestBreaths iM_orderMany iM_orderSum iM_leastOrder rM_often iM_setMany iM_someOf iM_allOf iM_allWeight iM_enoughWeight iM_worthSum iM_firstRest iM_leastDrawn (by first | omega | decide) (by first | omega | decide) (by first | omega | decide) (by first | omega | decide) (by first | omega | decide) (by first | omega | decide) (by first | omega | decide) (by first | omega | decide) (by first | omega | decide) (by first | omega | decide)) (cwV 0 hts (wd_V wd_388 wd_389 wd_390 wd_5 (wd_c wd_391)) rfl rfl rfl (by decide +kernel) ⟨Nat.le_of_ble_eq_true rfl, Nat.le_of_ble_eq_true rfl⟩) ⟨Pw.fb, va_recv hK hP (ci := 7) (q0 := 0) rfl rfl, fun U hU hW => Pw.to (hP.sub [0] rfl) (hD.sub [0] (by decide) rfl) (hK.sub [] rfl) hE hS hFc hU hW⟩ rfl rfl hl.1 rfl (lv_room (Nat.le_of_ble_eq_true rfl)) dX7_settles_1 ⟨Nat.le_of_ble_eq_true rfl, Nat.le_of_ble_eq_true rfl⟩) hS (fun q _ h => hFc q h) hFc (fun u t H locs ht hvm hw hB hz1 hk1 hS => ?_)
  obtain ⟨x_2204, x_2205, b_x_2204, b_x_2205, e_x_2204_0, hB⟩ := hB
  obtain ⟨hP, hD, hK⟩ := Bw.go (ws' := [(arI rM_r kM_r 287 fM_r), (arI rM_told kM_told 90 fM_told), (arI rM_st kM_st 90 fM_st), (oc7 oM x_2204 rM_tape iM_taped iM_size iM_at iM_end iM_token iM_whole iM_nameSize iM_fault iM_place x_2205 rM_letters iM_failed iM_hasCourt rM_r rM_fresh rM_told rM_read rM_st rM_undone rM_kept iM_undos iM_images rM_fresher iM_fresherSize iM_scale iM_night rM_heardRow rM_cutRow iM_breaths iM_cutMany iM_allBreaths rM_trial rM_words iM_fewestBreaths iM_orderMany iM_orderSum iM_leastOrder rM_often iM_setMany iM_someOf iM_allOf iM_allWeight iM_enoughWeight iM_worthSum iM_firstRest iM_leastDrawn)]) (tys' := [(kM_r, .int), (kM_told, .int), (kM_st, .int)]) hB rfl ht hvm hP hD hK [0] [1, 2, 3] rfl (by decide) (by decide) [0, 1, 2] hk1 hFc rfl rfl rfl
  clear hz1 hk1 hvm ht hB
  have hG := hG.trans (un2_eq e_x_2204_0)
  refine lv_aload_n hx hb dX7_settles_4 rfl (lv_at hl 0 rfl) ?_
  rcases (id r_C) with r_C0 | r_C1
  · skip
    refine va_get (D := (dC, dI)) (ci := 7) (v := .int iM_hasCourt) (C := RX7) (T := TX7) (N := 48) hx hb hts inX7 hown hK hP 3 rfl rfl 14 (by decide) (hts _ wd_385) (fun _ h9 => h9) rfl dX7_settles_5 ?_
    refine lv_if_ne (tgt := 17) hx hb dX7_settles_8 (by decide) (fun c_2206 => ?_) (fun c_2206 => ?_)
    · skip
      have hG := hG.trans (if_neg c_2206)
      have gc_2206 := ti_ne c_2206 rfl kc_0
      exfalso; clear hG; omega
    · skip
      have hG := hG.trans (if_pos c_2206)
      have gc_2206 := ti_eq c_2206 rfl kc_0
      refine lv_aload_n hx hb dX7_settles_11 rfl (lv_at hl 0 rfl) ?_
      refine lv_iconst (v := 1) hx hb dX7_settles_12 (by decide) ?_
      have hFc := va_free (wc := [(oc7 oM x_2204 rM_tape iM_taped iM_size iM_at iM_end iM_token iM_whole iM_nameSize iM_fault iM_place x_2205 rM_letters iM_failed iM_hasCourt rM_r rM_fresh rM_told rM_read rM_st rM_undone rM_kept iM_undos iM_images rM_fresher iM_fresherSize iM_scale iM_night rM_heardRow rM_cutRow iM_breaths iM_cutMany iM_allBreaths rM_trial rM_words iM_fewestBreaths iM_orderMany iM_orderSum iM_leastOrder rM_often iM_setMany iM_someOf iM_allOf iM_allWeight iM_enoughWeight iM_worthSum iM_firstRest iM_leastDrawn)]) hD hS hA [3] rfl
      refine va_calli (va_runV (As := [.int 1]) (rest := []) ⟨hx, hb, hml, hown, hts⟩ (tX7_no l dC dI _ oM x_2204 rM_tape iM_taped iM_size iM_at iM_end iM_token iM_whole iM_nameSize iM_fault iM_place x_2205 rM_letters iM_failed iM_hasCourt rM_r rM_fresh rM_told rM_read rM_st rM_undone rM_kept iM_undos iM_images rM_fresher iM_fresherSize iM_scale iM_night rM_heardRow rM_cutRow iM_breaths iM_cutMany iM_allBreaths rM_trial rM_words iM_fewestBreaths iM_orderMany iM_orderSum iM_leastOrder rM_often iM_setMany iM_someOf iM_allOf iM_allWeight iM_enoughWeight iM_worthSum iM_firstRest iM_leastDrawn 1 (by first | omega | decide) (by first | omega | decide) (by first | omega | decide) (by first | omega | decide) (by first | omega | decide) (by first | omega | decide) (by first | omega | decide) (by first | omega | decide) (by first | omega | decide) (by first | omega | decide)) (cwV 1 hts (wd_V wd_396 wd_397 wd_398 wd_5 (wd_c wd_399)) rfl rfl rfl (by decide +kernel) ⟨Nat.le_of_ble_eq_true rfl, Nat.le_of_ble_eq_true rfl⟩) ⟨Pw.fb, va_recv hK hP (ci := 7) (q0 := 3) rfl rfl, fun U hU hW => Pw.to (hP.sub [3] rfl) (hD.sub [3] (by decide) rfl) (hK.sub [] rfl) hE hS hFc hU hW⟩ rfl rfl hl.1 rfl (lv_room (Nat.le_of_ble_eq_true rfl)) dX7_settles_13 ⟨Nat.le_of_ble_eq_true rfl, Nat.le_of_ble_eq_true rfl⟩) hS (fun q _ h => hFc q h) hFc (fun r u t H locs ht hvm hw hB hz1 hk1 hS => ?_)
      have hru9 := hw.2
      have hw := hw.1
      obtain ⟨x_2207, e_x_2207_0, hB⟩ := hB
      obtain ⟨hP, hD, hK⟩ := Bw.go (ws' := [(arI rM_r kM_r 287 fM_r), (arI rM_told kM_told 90 fM_told), (arI rM_st kM_st 90 fM_st), (oc7 oM x_2204 rM_tape iM_taped iM_size iM_at iM_end iM_token iM_whole iM_nameSize iM_fault iM_place x_2207 rM_letters iM_failed iM_hasCourt rM_r rM_fresh rM_told rM_read rM_st rM_undone rM_kept iM_undos iM_images rM_fresher iM_fresherSize iM_scale iM_night rM_heardRow rM_cutRow iM_breaths iM_cutMany iM_allBreaths rM_trial rM_words iM_fewestBreaths iM_orderMany iM_orderSum iM_leastOrder rM_often iM_setMany iM_someOf iM_allOf iM_allWeight iM_enoughWeight iM_worthSum iM_firstRest iM_leastDrawn)]) (tys' := [(kM_r, .int), (kM_told, .int), (kM_st, .int)]) hB rfl ht hvm hP hD hK [3] [0, 1, 2] rfl (by decide) (by decide) [0, 1, 2] hk1 hFc rfl rfl rfl
      clear hz1 hk1 hvm ht hB
      rw [← hru9] at e_x_2207_0
      obtain ⟨x_2208, rfl⟩ : ∃ z, z = r := ⟨_, rfl⟩
      have hG := hG.trans (un2_eq e_x_2207_0)
      exact W.iret hx hb hr (fun t ht hW => ⟨⟨_, (cI x_2208), rfl, ⟨⟨trivial, trivial⟩, (cI_of x_2208)⟩, ⟨x_2204, x_2207, iM_night, (by first | omega | decide | assumption), (cI_tup hG), Bw.to (hP.sub [3, 0, 1, 2] rfl) (hD.sub [3, 0, 1, 2] (by decide) rfl) (hK.sub [0, 1, 2] rfl) ht hW⟩⟩, hS.F ht⟩) hS.2.2 dX7_settles_16
  · skip
    refine va_get (D := (dC, dI)) (ci := 7) (v := .int iM_hasCourt) (C := RX7) (T := TX7) (N := 48) hx hb hts inX7 hown hK hP 3 rfl rfl 14 (by decide) (hts _ wd_385) (fun _ h9 => h9) rfl dX7_settles_5 ?_
    refine lv_if_ne (tgt := 17) hx hb dX7_settles_8 (by decide) (fun c_2209 => ?_) (fun c_2209 => ?_)
    · skip
      have hG := hG.trans (if_neg c_2209)
      have gc_2209 := ti_ne c_2209 rfl kc_0
      refine lv_bipush (v := 10) hx hb dX7_settles_17 (by decide) ?_
      refine lv_istore_n (lv' := [(1, .int 10), (0, .ref oM)]) hx hb dX7_settles_19 rfl hl (by decide) rfl (fun ls hl => ?_)
      have hl := lv_sub hl (l' := [(1, .int 10), (0, .ref oM)]) [0, 1] rfl
      have key_n_2212 : ∀ (n_2212 : Nat) (z_2210 : Int32) (z_2211 : Int32) (H : Heap) (locs : List Loc) (ls : Array Slot), (0 ≤ z_2210.toInt ∧ z_2210.toInt ≤ 10) → (z_2211.toInt = -1) → z_2210.toInt.toNat < n_2212 → (PX7_settles iM_hasCourt fM_r fM_told fM_st iM_scale iM_night = HX7_settles_0 fM_r fM_told fM_st iM_scale x_2204 x_2205 n_2212 z_2210 z_2211) → va_P (dC, dI) vwCl [(arI rM_r kM_r 287 fM_r), (arI rM_told kM_told 90 fM_told), (arI rM_st kM_st 90 fM_st), (oc7 oM x_2204 rM_tape iM_taped iM_size iM_at iM_end iM_token iM_whole iM_nameSize iM_fault iM_place x_2205 rM_letters iM_failed iM_hasCourt rM_r rM_fresh rM_told rM_read rM_st rM_undone rM_kept iM_undos iM_images rM_fresher iM_fresherSize iM_scale z_2211 rM_heardRow rM_cutRow iM_breaths iM_cutMany iM_allBreaths rM_trial rM_words iM_fewestBreaths iM_orderMany iM_orderSum iM_leastOrder rM_often iM_setMany iM_someOf iM_allOf iM_allWeight iM_enoughWeight iM_worthSum iM_firstRest iM_leastDrawn)] H → va_D A [(arI rM_r kM_r 287 fM_r), (arI rM_told kM_told 90 fM_told), (arI rM_st kM_st 90 fM_st), (oc7 oM x_2204 rM_tape iM_taped iM_size iM_at iM_end iM_token iM_whole iM_nameSize iM_fault iM_place x_2205 rM_letters iM_failed iM_hasCourt rM_r rM_fresh rM_told rM_read rM_st rM_undone rM_kept iM_undos iM_images rM_fresher iM_fresherSize iM_scale z_2211 rM_heardRow rM_cutRow iM_breaths iM_cutMany iM_allBreaths rM_trial rM_words iM_fewestBreaths iM_orderMany iM_orderSum iM_leastOrder rM_often iM_setMany iM_someOf iM_allOf iM_allWeight iM_enoughWeight iM_worthSum iM_firstRest iM_leastDrawn)] → va_S A s.heap H locs → lv_has ls 2 [(1, .int z_2210), (0, .ref oM)] → W p l e (headSpec (Cond.code yX7_settles cX7_settles 2 (some .int) :: wG) ({ frames := 23, cells := 0, slots := 0, locals := 607 })).room s m ([.ref oM] : List Value).toArray below meth c H locs 0 0 (MQ below (va_Qi (fun (r : Int32) (u : Nat) => (True ∧ True) ∧ r = Int32.ofNat u) (fun (u : Nat) (t : State) => ∃ (niM_thrown : Int32) (niM_trouble : Int32) (niM_night : Int32), (niM_night.toInt = -1) ∧ (PX7_settles iM_hasCourt fM_r fM_told fM_st iM_scale iM_night = (Int32.ofNat u, niM_thrown, niM_trouble, niM_night)) ∧ Bw dC dI A [(oc7 oM niM_thrown rM_tape iM_taped iM_size iM_at iM_end iM_token iM_whole iM_nameSize iM_fault iM_place niM_trouble rM_letters iM_failed iM_hasCourt rM_r rM_fresh rM_told rM_read rM_st rM_undone rM_kept iM_undos iM_images rM_fresher iM_fresherSize iM_scale niM_night rM_heardRow rM_cutRow iM_breaths iM_cutMany iM_allBreaths rM_trial rM_words iM_fewestBreaths iM_orderMany iM_orderSum iM_leastOrder rM_often iM_setMany iM_someOf iM_allOf iM_allWeight iM_enoughWeight iM_worthSum iM_firstRest iM_leastDrawn), (arI rM_r kM_r 287 fM_r), (arI rM_told kM_told 90 fM_told), (arI rM_st kM_st 90 fM_st)] [(kM_r, .int), (kM_told, .int), (kM_st, .int)] t) A) ([.ref oM] : List Value).toArray s 0 0 A) (F0 m 20 ls []) := by
        intro n_2212
        induction n_2212 with
        | zero => intro z_2210 z_2211 H locs ls hi0_n_2212 hi1_n_2212 hm; exact absurd hm (by omega)
        | succ n_2212 ih_n_2212 =>
          intro z_2210 z_2211 H locs ls hi0_n_2212 hi1_n_2212 hm hG hP hD hS hl
          have hG := hG.trans (HX7_settles_0_eq _ _ _ _ _ _ _ _ _)
          refine lv_iload_n hx hb dX7_settles_20 rfl (lv_at hl 0 rfl) ?_
          refine lv_if_le (tgt := 48) hx hb dX7_settles_21 (by decide) (fun c_2213 => ?_) (fun c_2213 => ?_)
          · skip
            have hG := hG.trans (if_pos c_2213)
            have gc_2213 := ti_le c_2213 rfl kc_0
            refine lv_iload_n hx hb dX7_settles_48 rfl (lv_at hl 0 rfl) ?_
            exact W.iret hx hb hr (fun t ht hW => ⟨⟨_, (cI z_2210), rfl, ⟨⟨trivial, trivial⟩, (cI_of z_2210)⟩, ⟨x_2204, x_2205, z_2211, (by first | omega | decide | assumption), (cI_tup hG), Bw.to (hP.sub [3, 0, 1, 2] rfl) (hD.sub [3, 0, 1, 2] (by decide) rfl) (hK.sub [0, 1, 2] rfl) ht hW⟩⟩, hS.F ht⟩) hS.2.2 dX7_settles_49
          · skip
            have hG := hG.trans (if_neg c_2213)
            have gc_2213 := ti_nle c_2213 rfl kc_0
            refine lv_aload_n hx hb dX7_settles_24 rfl (lv_at hl 1 rfl) ?_
            refine lv_iload_n hx hb dX7_settles_25 rfl (lv_at hl 0 rfl) ?_
            refine lv_iconst (v := 1) hx hb dX7_settles_26 (by decide) ?_
            refine lv_isub hx hb dX7_settles_27 ?_
            refine lv_topi (fun x_2214 ex_2214 => ?_)
            have hG := hG.trans (lt_eq ex_2214)
            have vx_2214 : x_2214.toInt = z_2210.toInt + (-1) := by have q := ti_sub ex_2214 rfl kc_1 (by omega) (by omega); omega
            have hFc := va_free (wc := [(oc7 oM x_2204 rM_tape iM_taped iM_size iM_at iM_end iM_token iM_whole iM_nameSize iM_fault iM_place x_2205 rM_letters iM_failed iM_hasCourt rM_r rM_fresh rM_told rM_read rM_st rM_undone rM_kept iM_undos iM_images rM_fresher iM_fresherSize iM_scale z_2211 rM_heardRow rM_cutRow iM_breaths iM_cutMany iM_allBreaths rM_trial rM_words iM_fewestBreaths iM_orderMany iM_orderSum iM_leastOrder rM_often iM_setMany iM_someOf iM_allOf iM_allWeight iM_enoughWeight iM_worthSum iM_firstRest iM_leastDrawn), (arI rM_r kM_r 287 fM_r), (arI rM_told kM_told 90 fM_told), (arI rM_st kM_st 90 fM_st)]) hD hS hA [3, 0, 1, 2] rfl
            refine va_calli (va_runV (As := [.int x_2214]) (rest := []) ⟨hx, hb, hml, hown, hts⟩ (tX7_throneAt l dC dI _ oM x_2204 rM_tape iM_taped iM_size iM_at iM_end iM_token iM_whole iM_nameSize iM_fault iM_place x_2205 rM_letters iM_failed iM_hasCourt rM_r fM_r kM_r rM_fresh rM_told fM_told kM_told rM_read rM_st fM_st kM_st rM_undone rM_kept iM_undos iM_images rM_fresher iM_fresherSize iM_scale z_2211 rM_heardRow rM_cutRow iM_breaths iM_cutMany iM_allBreaths rM_trial rM_words iM_fewestBreaths iM_orderMany iM_orderSum iM_leastOrder rM_often iM_setMany iM_someOf iM_allOf iM_allWeight iM_enoughWeight iM_worthSum iM_firstRest iM_leastDrawn x_2214 (by first | omega | decide) (by first | omega | decide) (by first | omega | decide) (by first | omega | decide) (by first | omega | decide) (by first | omega | decide) (by first | omega | decide) (by first | omega | decide) (by first | omega | decide) (by first | omega | decide) (by assumption) (by assumption) (by assumption) (by assumption) (by assumption) (by first | omega | decide | assumption | (have q0 := kc_0; have q1 := kc_1; omega) | (intro h; exact absurd h (by decide)))) (cwV 1 hts (wd_V wd_1100 wd_1101 wd_1102 wd_5 (wd_c wd_1103)) rfl rfl rfl (by decide +kernel) ⟨Nat.le_of_ble_eq_true rfl, Nat.le_of_ble_eq_true rfl⟩) ⟨Pw.fb, va_recv hK hP (ci := 7) (q0 := 3) rfl rfl, fun U hU hW => Pw.to (hP.sub [3, 0, 1, 2] rfl) (hD.sub [3, 0, 1, 2] (by decide) rfl) (hK.sub [0, 1, 2] rfl) hE hS hFc hU hW⟩ rfl rfl hl.1 rfl (lv_room (Nat.le_of_ble_eq_true rfl)) dX7_settles_28 ⟨Nat.le_of_ble_eq_true rfl, Nat.le_of_ble_eq_true rfl⟩) hS (fun q _ h => hFc q h) hFc (fun r u t H locs ht hvm hw hB hz1 hk1 hS => ?_)
            have hru9 := hw.2
            have hw := hw.1
            obtain ⟨x_2215, b_x_2215, e_x_2215_0, hB⟩ := hB
            obtain ⟨hP, hD, hK⟩ := Bw.go (ws' := [(oc7 oM x_2204 rM_tape iM_taped iM_size iM_at iM_end iM_token iM_whole iM_nameSize iM_fault iM_place x_2205 rM_letters iM_failed iM_hasCourt rM_r rM_fresh rM_told rM_read rM_st rM_undone rM_kept iM_undos iM_images rM_fresher iM_fresherSize iM_scale x_2215 rM_heardRow rM_cutRow iM_breaths iM_cutMany iM_allBreaths rM_trial rM_words iM_fewestBreaths iM_orderMany iM_orderSum iM_leastOrder rM_often iM_setMany iM_someOf iM_allOf iM_allWeight iM_enoughWeight iM_worthSum iM_firstRest iM_leastDrawn), (arI rM_r kM_r 287 fM_r), (arI rM_told kM_told 90 fM_told), (arI rM_st kM_st 90 fM_st)]) (tys' := [(kM_r, .int), (kM_told, .int), (kM_st, .int)]) hB rfl ht hvm hP hD hK [3, 0, 1, 2] [] rfl (by decide) (by decide) [] hk1 hFc rfl rfl rfl
            clear hz1 hk1 hvm ht hB
            rw [← hru9] at e_x_2215_0
            obtain ⟨x_2216, rfl⟩ : ∃ z, z = r := ⟨_, rfl⟩
            have hG := hG.trans (un2_eq e_x_2215_0)
            refine lv_aload_n hx hb dX7_settles_31 rfl (lv_at hl 1 rfl) ?_
            refine lv_aload_n hx hb dX7_settles_32 rfl (lv_at hl 1 rfl) ?_
            refine va_get (D := (dC, dI)) (ci := 7) (v := .ref rM_st) (C := RX7) (T := TX7) (N := 48) hx hb hts inX7 hown hK hP 0 rfl rfl 19 (by decide) (hts _ wd_159) (fun _ h9 => h9) rfl dX7_settles_33 ?_
            have hFc := va_free (wc := [(oc7 oM x_2204 rM_tape iM_taped iM_size iM_at iM_end iM_token iM_whole iM_nameSize iM_fault iM_place x_2205 rM_letters iM_failed iM_hasCourt rM_r rM_fresh rM_told rM_read rM_st rM_undone rM_kept iM_undos iM_images rM_fresher iM_fresherSize iM_scale x_2215 rM_heardRow rM_cutRow iM_breaths iM_cutMany iM_allBreaths rM_trial rM_words iM_fewestBreaths iM_orderMany iM_orderSum iM_leastOrder rM_often iM_setMany iM_someOf iM_allOf iM_allWeight iM_enoughWeight iM_worthSum iM_firstRest iM_leastDrawn), (arI rM_r kM_r 287 fM_r), (arI rM_told kM_told 90 fM_told), (arI rM_st kM_st 90 fM_st)]) hD hS hA [0, 1, 2, 3] rfl
            refine va_calli (va_runV (As := [.ref rM_st]) (rest := [.int x_2216]) ⟨hx, hb, hml, hown, hts⟩ (tX7_throneBy l dC dI _ oM x_2204 rM_tape iM_taped iM_size iM_at iM_end iM_token iM_whole iM_nameSize iM_fault iM_place x_2205 rM_letters iM_failed iM_hasCourt rM_r fM_r kM_r rM_fresh rM_told fM_told kM_told rM_read rM_st rM_undone rM_kept iM_undos iM_images rM_fresher iM_fresherSize iM_scale x_2215 rM_heardRow rM_cutRow iM_breaths iM_cutMany iM_allBreaths rM_trial rM_words iM_fewestBreaths iM_orderMany iM_orderSum iM_leastOrder rM_often iM_setMany iM_someOf iM_allOf iM_allWeight iM_enoughWeight iM_worthSum iM_firstRest iM_leastDrawn rM_st fM_st kM_st (by first | omega | decide) (by first | omega | decide) (by first | omega | decide) (by first | omega | decide) (by first | omega | decide) (by first | omega | decide) (by first | omega | decide) (by first | omega | decide) (by first | omega | decide) (by first | omega | decide) (by assumption) (by assumption) (by assumption) (by assumption) (by first | omega | decide | assumption | (have q0 := kc_0; have q1 := kc_1; omega) | (intro h; exact absurd h (by decide)))) (cwV 1 hts (wd_V wd_979 wd_980 wd_981 wd_5 (wd_c wd_982)) rfl rfl rfl (by decide +kernel) ⟨Nat.le_of_ble_eq_true rfl, Nat.le_of_ble_eq_true rfl⟩) ⟨Pw.fb, va_recv hK hP (ci := 7) (q0 := 0) rfl rfl, fun U hU hW => Pw.to (hP.sub [0, 1, 2, 3] rfl) (hD.sub [0, 1, 2, 3] (by decide) rfl) (hK.sub [0, 1, 2] rfl) hE hS hFc hU hW⟩ rfl rfl hl.1 rfl (lv_room (Nat.le_of_ble_eq_true rfl)) dX7_settles_36 ⟨Nat.le_of_ble_eq_true rfl, Nat.le_of_ble_eq_true rfl⟩) hS (fun q _ h => hFc q h) hFc (fun r u t H locs ht hvm hw hB hz1 hk1 hS => ?_)
            have hru9 := hw.2
            have hw := hw.1
            obtain ⟨hP, hD, hK⟩ := Bw.go (ws' := [(oc7 oM x_2204 rM_tape iM_taped iM_size iM_at iM_end iM_token iM_whole iM_nameSize iM_fault iM_place x_2205 rM_letters iM_failed iM_hasCourt rM_r rM_fresh rM_told rM_read rM_st rM_undone rM_kept iM_undos iM_images rM_fresher iM_fresherSize iM_scale x_2215 rM_heardRow rM_cutRow iM_breaths iM_cutMany iM_allBreaths rM_trial rM_words iM_fewestBreaths iM_orderMany iM_orderSum iM_leastOrder rM_often iM_setMany iM_someOf iM_allOf iM_allWeight iM_enoughWeight iM_worthSum iM_firstRest iM_leastDrawn), (arI rM_r kM_r 287 fM_r), (arI rM_told kM_told 90 fM_told), (arI rM_st kM_st 90 fM_st)]) (tys' := [(kM_r, .int), (kM_told, .int), (kM_st, .int)]) hB rfl ht hvm hP hD hK [0, 1, 2, 3] [] rfl (by decide) (by decide) [] hk1 hFc rfl rfl rfl
            clear hz1 hk1 hvm ht hB
            obtain ⟨x_2217, rfl⟩ : ∃ z, z = r := ⟨_, rfl⟩
            have hG := hG.trans (lt_eq hru9.symm)
            refine lv_icmp_ne (tgt := 48) hx hb dX7_settles_39 (by decide) (fun c_2218 => ?_) (fun c_2218 => ?_)
            · skip
              have hG := hG.trans (if_neg c_2218)
              have gc_2218 := ti_ne c_2218 rfl rfl
              refine lv_iload_n hx hb dX7_settles_48 rfl (lv_at hl 0 rfl) ?_
              exact W.iret hx hb hr (fun t ht hW => ⟨⟨_, (cI z_2210), rfl, ⟨⟨trivial, trivial⟩, (cI_of z_2210)⟩, ⟨x_2204, x_2205, x_2215, (by first | omega | decide | assumption), (cI_tup hG), Bw.to (hP.sub [0, 1, 2, 3] rfl) (hD.sub [0, 1, 2, 3] (by decide) rfl) (hK.sub [0, 1, 2] rfl) ht hW⟩⟩, hS.F ht⟩) hS.2.2 dX7_settles_49
            · skip
              have hG := hG.trans (if_pos c_2218)
              have gc_2218 := ti_eq c_2218 rfl rfl
              obtain ⟨x_2219, ex_2219⟩ : ∃ z : Int32, z = z_2210 + Int32.ofInt (-1) := ⟨_, rfl⟩
              have hG := hG.trans (lt_eq ex_2219)
              have vx_2219 : x_2219.toInt = z_2210.toInt + (-1) := by have q := ti_add (y := (-1)) ex_2219 rfl kc_m1 (by omega) (by omega); omega
              refine lv_iinc (v := x_2219) (lv' := [(1, .int x_2219), (0, .ref oM)]) hx hb dX7_settles_42 hl (k := 0) rfl ex_2219.symm (by decide) rfl (fun ls hl => ?_)
              refine lv_goto (tgt := 20) hx hb dX7_settles_45 (by decide) ?_
              exact ih_n_2212 x_2219 x_2215 _ _ _  (by first | omega | decide | assumption) (by first | omega | decide | assumption) (by omega) hG (hP.sub [1, 2, 3, 0] rfl) (hD.sub [1, 2, 3, 0] (by decide) rfl) hS (lv_sub hl [0, 1] rfl)
      exact key_n_2212 (((10 : Int32).toInt.toNat) + 1) 10 iM_night _ _ _  (by first | omega | decide | assumption | (have q0 := kc_0; have q1 := kc_1; have q2 := kc_10; omega)) (by first | omega | decide | assumption | (have q0 := kc_0; have q1 := kc_1; have q2 := kc_10; omega)) (by omega) hG hP hD hS hl
    · skip
      have hG := hG.trans (if_pos c_2209)
      have gc_2209 := ti_eq c_2209 rfl kc_0
      refine lv_aload_n hx hb dX7_settles_11 rfl (lv_at hl 0 rfl) ?_
      refine lv_iconst (v := 1) hx hb dX7_settles_12 (by decide) ?_
      have hFc := va_free (wc := [(oc7 oM x_2204 rM_tape iM_taped iM_size iM_at iM_end iM_token iM_whole iM_nameSize iM_fault iM_place x_2205 rM_letters iM_failed iM_hasCourt rM_r rM_fresh rM_told rM_read rM_st rM_undone rM_kept iM_undos iM_images rM_fresher iM_fresherSize iM_scale iM_night rM_heardRow rM_cutRow iM_breaths iM_cutMany iM_allBreaths rM_trial rM_words iM_fewestBreaths iM_orderMany iM_orderSum iM_leastOrder rM_often iM_setMany iM_someOf iM_allOf iM_allWeight iM_enoughWeight iM_worthSum iM_firstRest iM_leastDrawn)]) hD hS hA [3] rfl
      refine va_calli (va_runV (As := [.int 1]) (rest := []) ⟨hx, hb, hml, hown, hts⟩ (tX7_no l dC dI _ oM x_2204 rM_tape iM_taped iM_size iM_at iM_end iM_token iM_whole iM_nameSize iM_fault iM_place x_2205 rM_letters iM_failed iM_hasCourt rM_r rM_fresh rM_told rM_read rM_st rM_undone rM_kept iM_undos iM_images rM_fresher iM_fresherSize iM_scale iM_night rM_heardRow rM_cutRow iM_breaths iM_cutMany iM_allBreaths rM_trial rM_words iM_fewestBreaths iM_orderMany iM_orderSum iM_leastOrder rM_often iM_setMany iM_someOf iM_allOf iM_allWeight iM_enoughWeight iM_worthSum iM_firstRest iM_leastDrawn 1 (by first | omega | decide) (by first | omega | decide) (by first | omega | decide) (by first | omega | decide) (by first | omega | decide) (by first | omega | decide) (by first | omega | decide) (by first | omega | decide) (by first | omega | decide) (by first | omega | decide)) (cwV 1 hts (wd_V wd_396 wd_397 wd_398 wd_5 (wd_c wd_399)) rfl rfl rfl (by decide +kernel) ⟨Nat.le_of_ble_eq_true rfl, Nat.le_of_ble_eq_true rfl⟩) ⟨Pw.fb, va_recv hK hP (ci := 7) (q0 := 3) rfl rfl, fun U hU hW => Pw.to (hP.sub [3] rfl) (hD.sub [3] (by decide) rfl) (hK.sub [] rfl) hE hS hFc hU hW⟩ rfl rfl hl.1 rfl (lv_room (Nat.le_of_ble_eq_true rfl)) dX7_settles_13 ⟨Nat.le_of_ble_eq_true rfl, Nat.le_of_ble_eq_true rfl⟩) hS (fun q _ h => hFc q h) hFc (fun r u t H locs ht hvm hw hB hz1 hk1 hS => ?_)
      have hru9 := hw.2
      have hw := hw.1
      obtain ⟨x_2220, e_x_2220_0, hB⟩ := hB
      obtain ⟨hP, hD, hK⟩ := Bw.go (ws' := [(arI rM_r kM_r 287 fM_r), (arI rM_told kM_told 90 fM_told), (arI rM_st kM_st 90 fM_st), (oc7 oM x_2204 rM_tape iM_taped iM_size iM_at iM_end iM_token iM_whole iM_nameSize iM_fault iM_place x_2220 rM_letters iM_failed iM_hasCourt rM_r rM_fresh rM_told rM_read rM_st rM_undone rM_kept iM_undos iM_images rM_fresher iM_fresherSize iM_scale iM_night rM_heardRow rM_cutRow iM_breaths iM_cutMany iM_allBreaths rM_trial rM_words iM_fewestBreaths iM_orderMany iM_orderSum iM_leastOrder rM_often iM_setMany iM_someOf iM_allOf iM_allWeight iM_enoughWeight iM_worthSum iM_firstRest iM_leastDrawn)]) (tys' := [(kM_r, .int), (kM_told, .int), (kM_st, .int)]) hB rfl ht hvm hP hD hK [3] [0, 1, 2] rfl (by decide) (by decide) [0, 1, 2] hk1 hFc rfl rfl rfl
      clear hz1 hk1 hvm ht hB
      rw [← hru9] at e_x_2220_0
      obtain ⟨x_2221, rfl⟩ : ∃ z, z = r := ⟨_, rfl⟩
      have hG := hG.trans (un2_eq e_x_2220_0)
      exact W.iret hx hb hr (fun t ht hW => ⟨⟨_, (cI x_2221), rfl, ⟨⟨trivial, trivial⟩, (cI_of x_2221)⟩, ⟨x_2204, x_2220, iM_night, (by first | omega | decide | assumption), (cI_tup hG), Bw.to (hP.sub [3, 0, 1, 2] rfl) (hD.sub [3, 0, 1, 2] (by decide) rfl) (hK.sub [0, 1, 2] rfl) ht hW⟩⟩, hS.F ht⟩) hS.2.2 dX7_settles_16
set_option maxHeartbeats 4000000 in
set_option maxRecDepth 100000 in
theorem tX7_turnOf (l : Launch) (dC : Nat → ClassId) (dI : Nat → Nat → Nat) (sz : Nat) (oM : Nat) (iM_thrown : Int32) (rM_tape : Nat) (iM_taped : Int32) (iM_size : Int32) (iM_at : Int32) (iM_end : Int32) (iM_token : Int32) (iM_whole : Int32) (iM_nameSize : Int32) (iM_fault : Int32) (iM_place : Int32) (iM_trouble : Int32) (rM_letters : Nat) (iM_failed : Int32) (iM_hasCourt : Int32) (rM_r : Nat) (fM_r : Nat → Int32) (kM_r : ClassId) (rM_fresh : Nat) (rM_told : Nat) (fM_told : Nat → Int32) (kM_told : ClassId) (rM_read : Nat) (rM_st : Nat) (fM_st : Nat → Int32) (kM_st : ClassId) (rM_undone : Nat) (rM_kept : Nat) (iM_undos : Int32) (iM_images : Int32) (rM_fresher : Nat) (iM_fresherSize : Int32) (iM_scale : Int32) (iM_night : Int32) (rM_heardRow : Nat) (rM_cutRow : Nat) (iM_breaths : Int32) (iM_cutMany : Int32) (iM_allBreaths : Int32) (rM_trial : Nat) (fM_trial : Nat → Int32) (kM_trial : ClassId) (rM_words : Nat) (iM_fewestBreaths : Int32) (iM_orderMany : Int32) (iM_orderSum : Int32) (iM_leastOrder : Int32) (rM_often : Nat) (iM_setMany : Int32) (iM_someOf : Int32) (iM_allOf : Int32) (iM_allWeight : Int64) (iM_enoughWeight : Int64) (iM_worthSum : Int64) (iM_firstRest : Int32) (iM_leastDrawn : Int32) (p0 : Int32) (b_iM_taped : 0 ≤ iM_taped.toInt ∧ iM_taped.toInt ≤ 900) (b_iM_size : 0 ≤ iM_size.toInt ∧ iM_size.toInt ≤ 900) (b_iM_end : 0 ≤ iM_end.toInt ∧ iM_end.toInt ≤ 900) (b_iM_failed : 0 ≤ iM_failed.toInt ∧ iM_failed.toInt ≤ 1) (b_iM_hasCourt : 0 ≤ iM_hasCourt.toInt ∧ iM_hasCourt.toInt ≤ 1) (b_iM_undos : 0 ≤ iM_undos.toInt ∧ iM_undos.toInt ≤ 16) (b_iM_images : 0 ≤ iM_images.toInt ∧ iM_images.toInt ≤ 3) (b_iM_scale : 1 ≤ iM_scale.toInt ∧ iM_scale.toInt ≤ 1296) (b_iM_breaths : 0 ≤ iM_breaths.toInt ∧ iM_breaths.toInt ≤ 399) (b_iM_cutMany : 0 ≤ iM_cutMany.toInt ∧ iM_cutMany.toInt ≤ 399) (r_R : ROk fM_r) (r_C : iM_hasCourt.toInt ≤ 0 ∨ (1 ≤ (fM_r 1).toInt ∧ 0 ≤ (fM_r 6).toInt ∧ (fM_r 6).toInt < (fM_r 1).toInt)) (r_st : RowOk fM_r fM_st) (r_told : RowOk fM_r fM_told) (r_wst : WorOk fM_st) (hk0 : 0 ≤ p0.toInt ∧ p0.toInt < (fM_r 1).toInt) (hth : 0 ≤ (fM_r 6).toInt ∧ (fM_r 6).toInt < (fM_r 1).toInt) : Met l yX7_turnOf (Cond.code yX7_turnOf cX7_turnOf 5 (some .int) :: wG) ({ frames := 22, cells := 0, slots := 0, locals := 585 }) (va_Pc [.ref oM, .int p0] (Pw dC dI sz [(oc7 oM iM_thrown rM_tape iM_taped iM_size iM_at iM_end iM_token iM_whole iM_nameSize iM_fault iM_place iM_trouble rM_letters iM_failed iM_hasCourt rM_r rM_fresh rM_told rM_read rM_st rM_undone rM_kept iM_undos iM_images rM_fresher iM_fresherSize iM_scale iM_night rM_heardRow rM_cutRow iM_breaths iM_cutMany iM_allBreaths rM_trial rM_words iM_fewestBreaths iM_orderMany iM_orderSum iM_leastOrder rM_often iM_setMany iM_someOf iM_allOf iM_allWeight iM_enoughWeight iM_worthSum iM_firstRest iM_leastDrawn), (arI rM_r kM_r 287 fM_r), (arI rM_told kM_told 90 fM_told), (arI rM_st kM_st 90 fM_st), (arI rM_trial kM_trial 90 fM_trial)] [(kM_r, .int), (kM_told, .int), (kM_st, .int), (kM_trial, .int)])) (va_Qi (fun (r : Int32) (u : Nat) => (True ∧ True) ∧ r = Int32.ofNat u) (fun (u : Nat) (t : State) => ∃ (nfM_trial : Nat → Int32), (PX7_turnOf fM_r fM_told fM_st iM_scale iM_night fM_trial p0 = (Int32.ofNat u, nfM_trial)) ∧ Bw dC dI (va_A [(oc7 oM iM_thrown rM_tape iM_taped iM_size iM_at iM_end iM_token iM_whole iM_nameSize iM_fault iM_place iM_trouble rM_letters iM_failed iM_hasCourt rM_r rM_fresh rM_told rM_read rM_st rM_undone rM_kept iM_undos iM_images rM_fresher iM_fresherSize iM_scale iM_night rM_heardRow rM_cutRow iM_breaths iM_cutMany iM_allBreaths rM_trial rM_words iM_fewestBreaths iM_orderMany iM_orderSum iM_leastOrder rM_often iM_setMany iM_someOf iM_allOf iM_allWeight iM_enoughWeight iM_worthSum iM_firstRest iM_leastDrawn), (arI rM_r kM_r 287 fM_r), (arI rM_told kM_told 90 fM_told), (arI rM_st kM_st 90 fM_st), (arI rM_trial kM_trial 90 fM_trial)] sz) [(oc7 oM iM_thrown rM_tape iM_taped iM_size iM_at iM_end iM_token iM_whole iM_nameSize iM_fault iM_place iM_trouble rM_letters iM_failed iM_hasCourt rM_r rM_fresh rM_told rM_read rM_st rM_undone rM_kept iM_undos iM_images rM_fresher iM_fresherSize iM_scale iM_night rM_heardRow rM_cutRow iM_breaths iM_cutMany iM_allBreaths rM_trial rM_words iM_fewestBreaths iM_orderMany iM_orderSum iM_leastOrder rM_often iM_setMany iM_someOf iM_allOf iM_allWeight iM_enoughWeight iM_worthSum iM_firstRest iM_leastDrawn), (arI rM_r kM_r 287 fM_r), (arI rM_told kM_told 90 fM_told), (arI rM_st kM_st 90 fM_st), (arI rM_trial kM_trial 90 nfM_trial)] [(kM_r, .int), (kM_told, .int), (kM_st, .int), (kM_trial, .int)] t) (va_A [(oc7 oM iM_thrown rM_tape iM_taped iM_size iM_at iM_end iM_token iM_whole iM_nameSize iM_fault iM_place iM_trouble rM_letters iM_failed iM_hasCourt rM_r rM_fresh rM_told rM_read rM_st rM_undone rM_kept iM_undos iM_images rM_fresher iM_fresherSize iM_scale iM_night rM_heardRow rM_cutRow iM_breaths iM_cutMany iM_allBreaths rM_trial rM_words iM_fewestBreaths iM_orderMany iM_orderSum iM_leastOrder rM_often iM_setMany iM_someOf iM_allOf iM_allWeight iM_enoughWeight iM_worthSum iM_firstRest iM_leastDrawn), (arI rM_r kM_r 287 fM_r), (arI rM_told kM_told 90 fM_told), (arI rM_st kM_st 90 fM_st), (arI rM_trial kM_trial 90 fM_trial)] sz)) 0 0 (va_A [(oc7 oM iM_thrown rM_tape iM_taped iM_size iM_at iM_end iM_token iM_whole iM_nameSize iM_fault iM_place iM_trouble rM_letters iM_failed iM_hasCourt rM_r rM_fresh rM_told rM_read rM_st rM_undone rM_kept iM_undos iM_images rM_fresher iM_fresherSize iM_scale iM_night rM_heardRow rM_cutRow iM_breaths iM_cutMany iM_allBreaths rM_trial rM_words iM_fewestBreaths iM_orderMany iM_orderSum iM_leastOrder rM_often iM_setMany iM_someOf iM_allOf iM_allWeight iM_enoughWeight iM_worthSum iM_firstRest iM_leastDrawn), (arI rM_r kM_r 287 fM_r), (arI rM_told kM_told 90 fM_told), (arI rM_st kM_st 90 fM_st), (arI rM_trial kM_trial 90 fM_trial)] sz) := by
  refine Met.ofW (cc := cX7_turnOf) (maxL := 5) (ret := (some .int)) (by decide) rfl ?_
  intro p e s m args below meth c s₁ B hml hv
  obtain ⟨rfl, hsz, hP, hK, hD0, hE⟩ := hv
  have hx := B.exec
  have hb := B.bytes
  have hr := B.returns
  have hts : ∀ w ∈ wG, w.before ([.ref oM, .int p0] : List Value).toArray s = true := fun w h => atoms_spec (ws := Cond.code yX7_turnOf cX7_turnOf 5 (some .int) :: wG) B.pre w (List.mem_cons_of_mem _ h)
  have hown : s.vm.findClass RX7 = some m.cls := findClass_of_methodNamed B.named
  have hlocks := B.notSynchronized
  subst hsz
  have hD := hD0.self (sz := s.heap.size)
  generalize hAe : va_A [(oc7 oM iM_thrown rM_tape iM_taped iM_size iM_at iM_end iM_token iM_whole iM_nameSize iM_fault iM_place iM_trouble rM_letters iM_failed iM_hasCourt rM_r rM_fresh rM_told rM_read rM_st rM_undone rM_kept iM_undos iM_images rM_fresher iM_fresherSize iM_scale iM_night rM_heardRow rM_cutRow iM_breaths iM_cutMany iM_allBreaths rM_trial rM_words iM_fewestBreaths iM_orderMany iM_orderSum iM_leastOrder rM_often iM_setMany iM_someOf iM_allOf iM_allWeight iM_enoughWeight iM_worthSum iM_firstRest iM_leastDrawn), (arI rM_r kM_r 287 fM_r), (arI rM_told kM_told 90 fM_told), (arI rM_st kM_st 90 fM_st), (arI rM_trial kM_trial 90 fM_trial)] s.heap.size = A at hD hE ⊢
  have hA : ∀ q : Nat, s.heap.size ≤ q → A q := fun q h => by rw [← hAe]; exact Or.inr h
  have hS : va_S A s.heap s.heap [] := va_S.rf
  have hl := lv_entry ([.ref oM, .int p0]) (n := 5) (Nat.le_of_ble_eq_true rfl)
  rw [lg_entry_eq]
  generalize (lg_sl ([.ref oM, .int p0]) ++ List.replicate (5 - (lg_sl ([.ref oM, .int p0])).length) Slot.unset).toArray = ls at hl ⊢
  have hl : lv_has ls 5 [(0, .ref oM), (1, .int p0)] := hl
  have hG := PX7_turnOf_eq fM_r fM_told fM_st iM_scale iM_night fM_trial p0
  have s_slips := r_R.slips
  have s_nodes := r_R.nodes
  have s_uns := r_R.uns
  have q_p0 := ti_cl (x := p0) rfl (by omega)
  have mn_p0 := r_R.many (27 + p0.toNatClampNeg) (by omega) (by omega)
  have kn_p0 := r_R.kind (9 + p0.toNatClampNeg) (by omega) (by omega)
  have in_p0 := r_R.inner p0.toNatClampNeg (by omega)
  refine lv_aload_n hx hb dX7_turnOf_0 rfl (lv_at hl 0 rfl) ?_
  refine va_get (D := (dC, dI)) (ci := 7) (v := .ref rM_st) (C := RX7) (T := TX7) (N := 48) hx hb hts inX7 hown hK hP 0 rfl rfl 19 (by decide) (hts _ wd_159) (fun _ h9 => h9) rfl dX7_turnOf_1 ?_
  refine lv_iconst (v := 0) hx hb dX7_turnOf_4 (by decide) ?_
  refine lv_aload_n hx hb dX7_turnOf_5 rfl (lv_at hl 0 rfl) ?_
  refine va_get (D := (dC, dI)) (ci := 7) (v := .ref rM_trial) (C := RX7) (T := TX7) (N := 48) hx hb hts inX7 hown hK hP 0 rfl rfl 33 (by decide) (hts _ wd_167) (fun _ h9 => h9) rfl dX7_turnOf_6 ?_
  refine lv_iconst (v := 0) hx hb dX7_turnOf_9 (by decide) ?_
  refine lv_bipush (v := 90) hx hb dX7_turnOf_10 (by decide) ?_
  have hFc := va_free (wc := [(arI rM_st kM_st 90 fM_st), (arI rM_trial kM_trial 90 fM_trial)]) hD hS hA [3, 4] rfl
  refine va_callv (va_runS (As := [.ref rM_st, .int 0, .ref rM_trial, .int 0, .int 90]) (rest := []) ⟨hx, hb, hml, hown, hts⟩ (tX7_copy_90_90 l dC dI _ rM_st fM_st kM_st rM_trial fM_trial kM_trial 0 0 90 (by first | omega | decide | assumption | (have q0 := kc_0; have q1 := kc_1; have q2 := kc_90; omega) | (intro h; exact absurd h (by decide))) (by first | omega | decide | assumption | (have q0 := kc_0; have q1 := kc_1; have q2 := kc_90; omega) | (intro h; exact absurd h (by decide))) (by first | omega | decide | assumption | (have q0 := kc_0; have q1 := kc_1; have q2 := kc_90; omega) | (intro h; exact absurd h (by decide)))) (va_cwS 5 hts (wd_S wd_475 wd_476 wd_5 (wd_c wd_477)) rfl rfl rfl (by decide +kernel) ⟨Nat.le_of_ble_eq_true rfl, Nat.le_of_ble_eq_true rfl⟩) ⟨Pw.fb, fun U hU hW => Pw.to (hP.sub [3, 4] rfl) (hD.sub [3, 4] (by decide) rfl) (hK.sub [2, 3] rfl) hE hS hFc hU hW⟩ rfl rfl hl.1 rfl (lv_room (Nat.le_of_ble_eq_true rfl)) dX7_turnOf_12 ⟨Nat.le_of_ble_eq_true rfl, Nat.le_of_ble_eq_true rfl⟩) hS (fun q _ h => hFc q h) hFc (fun u t H locs ht hvm hw hB hz1 hk1 hS => ?_)
  obtain ⟨f_2248, e_f_2248_0, hB⟩ := hB
  obtain ⟨hP, hD, hK⟩ := Bw.go (ws' := [(oc7 oM iM_thrown rM_tape iM_taped iM_size iM_at iM_end iM_token iM_whole iM_nameSize iM_fault iM_place iM_trouble rM_letters iM_failed iM_hasCourt rM_r rM_fresh rM_told rM_read rM_st rM_undone rM_kept iM_undos iM_images rM_fresher iM_fresherSize iM_scale iM_night rM_heardRow rM_cutRow iM_breaths iM_cutMany iM_allBreaths rM_trial rM_words iM_fewestBreaths iM_orderMany iM_orderSum iM_leastOrder rM_often iM_setMany iM_someOf iM_allOf iM_allWeight iM_enoughWeight iM_worthSum iM_firstRest iM_leastDrawn), (arI rM_r kM_r 287 fM_r), (arI rM_told kM_told 90 fM_told), (arI rM_st kM_st 90 fM_st), (arI rM_trial kM_trial 90 f_2248)]) (tys' := [(kM_r, .int), (kM_told, .int), (kM_st, .int), (kM_trial, .int)]) hB rfl ht hvm hP hD hK [3, 4] [0, 1, 2] rfl (by decide) (by decide) [0, 1] hk1 hFc rfl rfl rfl
  clear hz1 hk1 hvm ht hB
  have r_f_2248 : RowOk fM_r f_2248 := RowOk.copy r_R r_st e_f_2248_0
  have hG := hG.trans (lt_eq (CopyOk.fn e_f_2248_0).symm)
  refine lv_aload_n hx hb dX7_turnOf_15 rfl (lv_at hl 0 rfl) ?_
  refine lv_aload_n hx hb dX7_turnOf_16 rfl (lv_at hl 0 rfl) ?_
  refine va_get (D := (dC, dI)) (ci := 7) (v := .ref rM_st) (C := RX7) (T := TX7) (N := 48) hx hb hts inX7 hown hK hP 0 rfl rfl 19 (by decide) (hts _ wd_159) (fun _ h9 => h9) rfl dX7_turnOf_17 ?_
  have hFc := va_free (wc := [(oc7 oM iM_thrown rM_tape iM_taped iM_size iM_at iM_end iM_token iM_whole iM_nameSize iM_fault iM_place iM_trouble rM_letters iM_failed iM_hasCourt rM_r rM_fresh rM_told rM_read rM_st rM_undone rM_kept iM_undos iM_images rM_fresher iM_fresherSize iM_scale iM_night rM_heardRow rM_cutRow iM_breaths iM_cutMany iM_allBreaths rM_trial rM_words iM_fewestBreaths iM_orderMany iM_orderSum iM_leastOrder rM_often iM_setMany iM_someOf iM_allOf iM_allWeight iM_enoughWeight iM_worthSum iM_firstRest iM_leastDrawn), (arI rM_r kM_r 287 fM_r), (arI rM_told kM_told 90 fM_told), (arI rM_st kM_st 90 fM_st)]) hD hS hA [0, 1, 2, 3] rfl
  refine va_calli (va_runV (As := [.ref rM_st]) (rest := []) ⟨hx, hb, hml, hown, hts⟩ (tX7_throneBy l dC dI _ oM iM_thrown rM_tape iM_taped iM_size iM_at iM_end iM_token iM_whole iM_nameSize iM_fault iM_place iM_trouble rM_letters iM_failed iM_hasCourt rM_r fM_r kM_r rM_fresh rM_told fM_told kM_told rM_read rM_st rM_undone rM_kept iM_undos iM_images rM_fresher iM_fresherSize iM_scale iM_night rM_heardRow rM_cutRow iM_breaths iM_cutMany iM_allBreaths rM_trial rM_words iM_fewestBreaths iM_orderMany iM_orderSum iM_leastOrder rM_often iM_setMany iM_someOf iM_allOf iM_allWeight iM_enoughWeight iM_worthSum iM_firstRest iM_leastDrawn rM_st fM_st kM_st (by first | omega | decide) (by first | omega | decide) (by first | omega | decide) (by first | omega | decide) (by first | omega | decide) (by first | omega | decide) (by first | omega | decide) (by first | omega | decide) (by first | omega | decide) (by first | omega | decide) (by assumption) (by assumption) (by assumption) (by assumption) (by first | omega | decide | assumption | (have q0 := kc_0; have q1 := kc_1; omega) | (intro h; exact absurd h (by decide)))) (cwV 1 hts (wd_V wd_979 wd_980 wd_981 wd_5 (wd_c wd_982)) rfl rfl rfl (by decide +kernel) ⟨Nat.le_of_ble_eq_true rfl, Nat.le_of_ble_eq_true rfl⟩) ⟨Pw.fb, va_recv hK hP (ci := 7) (q0 := 0) rfl rfl, fun U hU hW => Pw.to (hP.sub [0, 1, 2, 3] rfl) (hD.sub [0, 1, 2, 3] (by decide) rfl) (hK.sub [0, 1, 2] rfl) hE hS hFc hU hW⟩ rfl rfl hl.1 rfl (lv_room (Nat.le_of_ble_eq_true rfl)) dX7_turnOf_20 ⟨Nat.le_of_ble_eq_true rfl, Nat.le_of_ble_eq_true rfl⟩) hS (fun q _ h => hFc q h) hFc (fun r u t H locs ht hvm hw hB hz1 hk1 hS => ?_)
  have hru9 := hw.2
  have hw := hw.1
  obtain ⟨hP, hD, hK⟩ := Bw.go (ws' := [(arI rM_trial kM_trial 90 f_2248), (oc7 oM iM_thrown rM_tape iM_taped iM_size iM_at iM_end iM_token iM_whole iM_nameSize iM_fault iM_place iM_trouble rM_letters iM_failed iM_hasCourt rM_r rM_fresh rM_told rM_read rM_st rM_undone rM_kept iM_undos iM_images rM_fresher iM_fresherSize iM_scale iM_night rM_heardRow rM_cutRow iM_breaths iM_cutMany iM_allBreaths rM_trial rM_words iM_fewestBreaths iM_orderMany iM_orderSum iM_leastOrder rM_often iM_setMany iM_someOf iM_allOf iM_allWeight iM_enoughWeight iM_worthSum iM_firstRest iM_leastDrawn), (arI rM_r kM_r 287 fM_r), (arI rM_told kM_told 90 fM_told), (arI rM_st kM_st 90 fM_st)]) (tys' := [(kM_trial, .int), (kM_r, .int), (kM_told, .int), (kM_st, .int)]) hB rfl ht hvm hP hD hK [0, 1, 2, 3] [4] rfl (by decide) (by decide) [3] hk1 hFc rfl rfl rfl
  clear hz1 hk1 hvm ht hB
  obtain ⟨x_2249, rfl⟩ : ∃ z, z = r := ⟨_, rfl⟩
  have hG := hG.trans (lt_eq hru9.symm)
  refine lv_istore_n (lv' := [(2, .int x_2249), (0, .ref oM), (1, .int p0)]) hx hb dX7_turnOf_23 rfl hl (by decide) rfl (fun ls hl => ?_)
  refine lv_iconst (v := 1) hx hb dX7_turnOf_24 (by decide) ?_
  refine lv_istore_n (lv' := [(3, .int 1), (2, .int x_2249), (0, .ref oM), (1, .int p0)]) hx hb dX7_turnOf_25 rfl hl (by decide) rfl (fun ls hl => ?_)
  have hl := lv_sub hl (l' := [(3, .int 1), (2, .int x_2249), (0, .ref oM), (1, .int p0)]) [0, 1, 2, 3] rfl
  have key_n_2252 : ∀ (n_2252 : Nat) (z_2250 : Int32) (f_2251 : Nat → Int32) (H : Heap) (locs : List Loc) (ls : Array Slot), (1 ≤ z_2250.toInt ∧ z_2250.toInt ≤ 100) → (RowOk fM_r f_2251) → (100 - z_2250.toInt).toNat < n_2252 → (PX7_turnOf fM_r fM_told fM_st iM_scale iM_night fM_trial p0 = HX7_turnOf_0 fM_r fM_told fM_st iM_scale iM_night p0 x_2249 n_2252 z_2250 f_2251) → va_P (dC, dI) vwCl [(arI rM_trial kM_trial 90 f_2251), (oc7 oM iM_thrown rM_tape iM_taped iM_size iM_at iM_end iM_token iM_whole iM_nameSize iM_fault iM_place iM_trouble rM_letters iM_failed iM_hasCourt rM_r rM_fresh rM_told rM_read rM_st rM_undone rM_kept iM_undos iM_images rM_fresher iM_fresherSize iM_scale iM_night rM_heardRow rM_cutRow iM_breaths iM_cutMany iM_allBreaths rM_trial rM_words iM_fewestBreaths iM_orderMany iM_orderSum iM_leastOrder rM_often iM_setMany iM_someOf iM_allOf iM_allWeight iM_enoughWeight iM_worthSum iM_firstRest iM_leastDrawn), (arI rM_r kM_r 287 fM_r), (arI rM_told kM_told 90 fM_told), (arI rM_st kM_st 90 fM_st)] H → va_D A [(arI rM_trial kM_trial 90 f_2251), (oc7 oM iM_thrown rM_tape iM_taped iM_size iM_at iM_end iM_token iM_whole iM_nameSize iM_fault iM_place iM_trouble rM_letters iM_failed iM_hasCourt rM_r rM_fresh rM_told rM_read rM_st rM_undone rM_kept iM_undos iM_images rM_fresher iM_fresherSize iM_scale iM_night rM_heardRow rM_cutRow iM_breaths iM_cutMany iM_allBreaths rM_trial rM_words iM_fewestBreaths iM_orderMany iM_orderSum iM_leastOrder rM_often iM_setMany iM_someOf iM_allOf iM_allWeight iM_enoughWeight iM_worthSum iM_firstRest iM_leastDrawn), (arI rM_r kM_r 287 fM_r), (arI rM_told kM_told 90 fM_told), (arI rM_st kM_st 90 fM_st)] → va_S A s.heap H locs → lv_has ls 5 [(3, .int z_2250), (2, .int x_2249), (0, .ref oM), (1, .int p0)] → W p l e (headSpec (Cond.code yX7_turnOf cX7_turnOf 5 (some .int) :: wG) ({ frames := 22, cells := 0, slots := 0, locals := 585 })).room s m ([.ref oM, .int p0] : List Value).toArray below meth c H locs 0 0 (MQ below (va_Qi (fun (r : Int32) (u : Nat) => (True ∧ True) ∧ r = Int32.ofNat u) (fun (u : Nat) (t : State) => ∃ (nfM_trial : Nat → Int32), (PX7_turnOf fM_r fM_told fM_st iM_scale iM_night fM_trial p0 = (Int32.ofNat u, nfM_trial)) ∧ Bw dC dI A [(oc7 oM iM_thrown rM_tape iM_taped iM_size iM_at iM_end iM_token iM_whole iM_nameSize iM_fault iM_place iM_trouble rM_letters iM_failed iM_hasCourt rM_r rM_fresh rM_told rM_read rM_st rM_undone rM_kept iM_undos iM_images rM_fresher iM_fresherSize iM_scale iM_night rM_heardRow rM_cutRow iM_breaths iM_cutMany iM_allBreaths rM_trial rM_words iM_fewestBreaths iM_orderMany iM_orderSum iM_leastOrder rM_often iM_setMany iM_someOf iM_allOf iM_allWeight iM_enoughWeight iM_worthSum iM_firstRest iM_leastDrawn), (arI rM_r kM_r 287 fM_r), (arI rM_told kM_told 90 fM_told), (arI rM_st kM_st 90 fM_st), (arI rM_trial kM_trial 90 nfM_trial)] [(kM_r, .int), (kM_told, .int), (kM_st, .int), (kM_trial, .int)] t) A) ([.ref oM, .int p0] : List Value).toArray s 0 0 A) (F0 m 26 ls []) := by
    intro n_2252
    induction n_2252 with
    | zero => intro z_2250 f_2251 H locs ls hi0_n_2252 hi1_n_2252 hm; exact absurd hm (by omega)
    | succ n_2252 ih_n_2252 =>
      intro z_2250 f_2251 H locs ls hi0_n_2252 hi1_n_2252 hm hG hP hD hS hl
      have hG := hG.trans (HX7_turnOf_0_eq _ _ _ _ _ _ _ _ _ _)
      refine lv_iload_n hx hb dX7_turnOf_26 rfl (lv_at hl 0 rfl) ?_
      refine lv_bipush (v := 100) hx hb dX7_turnOf_27 (by decide) ?_
      refine lv_icmp_ge (tgt := 108) hx hb dX7_turnOf_29 (by decide) (fun c_2253 => ?_) (fun c_2253 => ?_)
      · skip
        have hG := hG.trans (if_pos c_2253)
        have gc_2253 := ti_le c_2253 kc_100 rfl
        refine lv_bipush (v := (-2)) hx hb dX7_turnOf_108 (by decide) ?_
        exact W.iret hx hb hr (fun t ht hW => ⟨⟨_, (cI (-2)), rfl, ⟨⟨trivial, trivial⟩, (cI_of (-2))⟩, ⟨f_2251, (cI_tup hG), Bw.to (hP.sub [1, 2, 3, 4, 0] rfl) (hD.sub [1, 2, 3, 4, 0] (by decide) rfl) (hK.sub [1, 2, 3, 0] rfl) ht hW⟩⟩, hS.F ht⟩) hS.2.2 dX7_turnOf_110
      · skip
        have hG := hG.trans (if_neg c_2253)
        have gc_2253 := ti_nle c_2253 kc_100 rfl
        refine lv_iconst (v := (-1)) hx hb dX7_turnOf_32 (by decide) ?_
        refine lv_istore (lv' := [(4, .int (-1)), (3, .int z_2250), (2, .int x_2249), (0, .ref oM), (1, .int p0)]) hx hb dX7_turnOf_33 hl (by decide) rfl (fun ls hl => ?_)
        have hl := lv_sub hl (l' := [(4, .int (-1)), (3, .int z_2250), (2, .int x_2249), (0, .ref oM), (1, .int p0)]) [0, 1, 2, 3, 4] rfl
        have key_n_2256 : ∀ (n_2256 : Nat) (z_2254 : Int32) (f_2255 : Nat → Int32) (H : Heap) (locs : List Loc) (ls : Array Slot), ((-1) ≤ z_2254.toInt ∧ z_2254.toInt ≤ 3) → (RowOk fM_r f_2255) → (3 - z_2254.toInt).toNat < n_2256 → (PX7_turnOf fM_r fM_told fM_st iM_scale iM_night fM_trial p0 = HX7_turnOf_1 fM_r fM_told fM_st iM_scale iM_night p0 x_2249 z_2250 (fun (z_2250 : Int32) (f_2251 : Nat → Int32) => HX7_turnOf_0 fM_r fM_told fM_st iM_scale iM_night p0 x_2249 n_2252 z_2250 f_2251) n_2256 z_2254 f_2255) → va_P (dC, dI) vwCl [(arI rM_trial kM_trial 90 f_2255), (oc7 oM iM_thrown rM_tape iM_taped iM_size iM_at iM_end iM_token iM_whole iM_nameSize iM_fault iM_place iM_trouble rM_letters iM_failed iM_hasCourt rM_r rM_fresh rM_told rM_read rM_st rM_undone rM_kept iM_undos iM_images rM_fresher iM_fresherSize iM_scale iM_night rM_heardRow rM_cutRow iM_breaths iM_cutMany iM_allBreaths rM_trial rM_words iM_fewestBreaths iM_orderMany iM_orderSum iM_leastOrder rM_often iM_setMany iM_someOf iM_allOf iM_allWeight iM_enoughWeight iM_worthSum iM_firstRest iM_leastDrawn), (arI rM_r kM_r 287 fM_r), (arI rM_told kM_told 90 fM_told), (arI rM_st kM_st 90 fM_st)] H → va_D A [(arI rM_trial kM_trial 90 f_2255), (oc7 oM iM_thrown rM_tape iM_taped iM_size iM_at iM_end iM_token iM_whole iM_nameSize iM_fault iM_place iM_trouble rM_letters iM_failed iM_hasCourt rM_r rM_fresh rM_told rM_read rM_st rM_undone rM_kept iM_undos iM_images rM_fresher iM_fresherSize iM_scale iM_night rM_heardRow rM_cutRow iM_breaths iM_cutMany iM_allBreaths rM_trial rM_words iM_fewestBreaths iM_orderMany iM_orderSum iM_leastOrder rM_often iM_setMany iM_someOf iM_allOf iM_allWeight iM_enoughWeight iM_worthSum iM_firstRest iM_leastDrawn), (arI rM_r kM_r 287 fM_r), (arI rM_told kM_told 90 fM_told), (arI rM_st kM_st 90 fM_st)] → va_S A s.heap H locs → lv_has ls 5 [(4, .int z_2254), (3, .int z_2250), (2, .int x_2249), (0, .ref oM), (1, .int p0)] → W p l e (headSpec (Cond.code yX7_turnOf cX7_turnOf 5 (some .int) :: wG) ({ frames := 22, cells := 0, slots := 0, locals := 585 })).room s m ([.ref oM, .int p0] : List Value).toArray below meth c H locs 0 0 (MQ below (va_Qi (fun (r : Int32) (u : Nat) => (True ∧ True) ∧ r = Int32.ofNat u) (fun (u : Nat) (t : State) => ∃ (nfM_trial : Nat → Int32), (PX7_turnOf fM_r fM_told fM_st iM_scale iM_night fM_trial p0 = (Int32.ofNat u, nfM_trial)) ∧ Bw dC dI A [(oc7 oM iM_thrown rM_tape iM_taped iM_size iM_at iM_end iM_token iM_whole iM_nameSize iM_fault iM_place iM_trouble rM_letters iM_failed iM_hasCourt rM_r rM_fresh rM_told rM_read rM_st rM_undone rM_kept iM_undos iM_images rM_fresher iM_fresherSize iM_scale iM_night rM_heardRow rM_cutRow iM_breaths iM_cutMany iM_allBreaths rM_trial rM_words iM_fewestBreaths iM_orderMany iM_orderSum iM_leastOrder rM_often iM_setMany iM_someOf iM_allOf iM_allWeight iM_enoughWeight iM_worthSum iM_firstRest iM_leastDrawn), (arI rM_r kM_r 287 fM_r), (arI rM_told kM_told 90 fM_told), (arI rM_st kM_st 90 fM_st), (arI rM_trial kM_trial 90 nfM_trial)] [(kM_r, .int), (kM_told, .int), (kM_st, .int), (kM_trial, .int)] t) A) ([.ref oM, .int p0] : List Value).toArray s 0 0 A) (F0 m 35 ls []) := by
          intro n_2256
          induction n_2256 with
          | zero => intro z_2254 f_2255 H locs ls hi0_n_2256 hi1_n_2256 hm; exact absurd hm (by omega)
          | succ n_2256 ih_n_2256 =>
            intro z_2254 f_2255 H locs ls hi0_n_2256 hi1_n_2256 hm hG hP hD hS hl
            have hG := hG.trans (HX7_turnOf_1_eq _ _ _ _ _ _ _ _ _ _ _ _)
            refine lv_iload hx hb dX7_turnOf_35 (lv_at hl 0 rfl) ?_
            refine lv_iconst (v := 2) hx hb dX7_turnOf_37 (by decide) ?_
            refine lv_icmp_ge (tgt := 102) hx hb dX7_turnOf_38 (by decide) (fun c_2257 => ?_) (fun c_2257 => ?_)
            · skip
              have hG := hG.trans (if_pos c_2257)
              have gc_2257 := ti_le c_2257 kc_2 rfl
              obtain ⟨x_2258, ex_2258⟩ : ∃ z : Int32, z = z_2250 + Int32.ofInt 1 := ⟨_, rfl⟩
              have hG := hG.trans (lt_eq ex_2258)
              have vx_2258 : x_2258.toInt = z_2250.toInt + 1 := by have q := ti_add (y := 1) ex_2258 rfl kc_1 (by omega) (by omega); omega
              refine lv_iinc (v := x_2258) (lv' := [(3, .int x_2258), (4, .int z_2254), (2, .int x_2249), (0, .ref oM), (1, .int p0)]) hx hb dX7_turnOf_102 hl (k := 1) rfl ex_2258.symm (by decide) rfl (fun ls hl => ?_)
              refine lv_goto (tgt := 26) hx hb dX7_turnOf_105 (by decide) ?_
              exact ih_n_2252 x_2258 f_2255 _ _ _  (by first | omega | decide | assumption) (by first | omega | decide | assumption) (by omega) hG (hP.sub [0, 1, 2, 3, 4] rfl) (hD.sub [0, 1, 2, 3, 4] (by decide) rfl) hS (lv_sub hl [0, 2, 3, 4] rfl)
            · skip
              have hG := hG.trans (if_neg c_2257)
              have gc_2257 := ti_nle c_2257 kc_2 rfl
              refine lv_aload_n hx hb dX7_turnOf_41 rfl (lv_at hl 3 rfl) ?_
              refine va_get (D := (dC, dI)) (ci := 7) (v := .ref rM_trial) (C := RX7) (T := TX7) (N := 48) hx hb hts inX7 hown hK hP 1 rfl rfl 33 (by decide) (hts _ wd_167) (fun _ h9 => h9) rfl dX7_turnOf_42 ?_
              refine lv_bipush (v := 72) hx hb dX7_turnOf_45 (by decide) ?_
              refine lv_iload_n hx hb dX7_turnOf_47 rfl (lv_at hl 4 rfl) ?_
              refine lv_iadd hx hb dX7_turnOf_48 ?_
              refine lv_topi (fun x_2259 ex_2259 => ?_)
              have hG := hG.trans (lt_eq ex_2259)
              have vx_2259 : x_2259.toInt = p0.toInt + 72 := by have q := ti_add ex_2259 kc_72 rfl (by omega) (by omega); omega
              refine lv_aload_n hx hb dX7_turnOf_49 rfl (lv_at hl 3 rfl) ?_
              refine va_get (D := (dC, dI)) (ci := 7) (v := .ref rM_st) (C := RX7) (T := TX7) (N := 48) hx hb hts inX7 hown hK hP 1 rfl rfl 19 (by decide) (hts _ wd_159) (fun _ h9 => h9) rfl dX7_turnOf_50 ?_
              refine lv_bipush (v := 72) hx hb dX7_turnOf_53 (by decide) ?_
              refine lv_iload_n hx hb dX7_turnOf_55 rfl (lv_at hl 4 rfl) ?_
              refine lv_iadd hx hb dX7_turnOf_56 ?_
              refine lv_topi (fun x_2260 ex_2260 => ?_)
              have hG := hG.trans (lt_eq ex_2260)
              have vx_2260 : x_2260.toInt = p0.toInt + 72 := by have q := ti_add ex_2260 kc_72 rfl (by omega) (by omega); omega
              refine va_iald hx hb hK hP 4 3 rfl rfl (ti_in vx_2260 (by omega) (by omega)) dX7_turnOf_57 ?_
              refine lv_topi (fun x_2261 ex_2261 => ?_)
              have hG := hG.trans (lt_eq ex_2261)
              have kx_2261 : (fM_st x_2260.toNatClampNeg).toInt = x_2261.toInt := by rw [ex_2261]
              have cx_2261 : (fM_st (72 + p0.toNatClampNeg)).toInt = x_2261.toInt := by rw [show 72 + p0.toNatClampNeg = x_2260.toNatClampNeg from by have q9 := ti_cl (x := x_2260) vx_2260 (by omega); have q_p0 := ti_cl (x := p0) rfl (by omega); omega]; exact kx_2261
              refine lv_iload hx hb dX7_turnOf_58 (lv_at hl 0 rfl) ?_
              refine lv_iload_n hx hb dX7_turnOf_60 rfl (lv_at hl 1 rfl) ?_
              refine lv_imul hx hb dX7_turnOf_61 ?_
              refine lv_topi (fun x_2262 ex_2262 => ?_)
              have hG := hG.trans (lt_eq ex_2262)
              refine lv_iadd hx hb dX7_turnOf_62 ?_
              refine lv_topi (fun x_2263 ex_2263 => ?_)
              have hG := hG.trans (lt_eq ex_2263)
              refine va_iast hx hb hK hP hD hS 0 0 rfl rfl (ti_in vx_2259 (by omega) (by omega)) dX7_turnOf_63 (fun H locs hP hD hS => ?_)
              obtain ⟨f_2264, ef_2264⟩ : ∃ g : Nat → Int32, g = upd f_2255 x_2259.toNatClampNeg x_2263 := ⟨_, rfl⟩
              rw [← ef_2264] at hP hD
              have hG := hG.trans (lt_eq ef_2264)
              obtain ⟨hP, hD⟩ := wl2 (ws' := [(arI rM_trial kM_trial 90 f_2264), (oc7 oM iM_thrown rM_tape iM_taped iM_size iM_at iM_end iM_token iM_whole iM_nameSize iM_fault iM_place iM_trouble rM_letters iM_failed iM_hasCourt rM_r rM_fresh rM_told rM_read rM_st rM_undone rM_kept iM_undos iM_images rM_fresher iM_fresherSize iM_scale iM_night rM_heardRow rM_cutRow iM_breaths iM_cutMany iM_allBreaths rM_trial rM_words iM_fewestBreaths iM_orderMany iM_orderSum iM_leastOrder rM_often iM_setMany iM_someOf iM_allOf iM_allWeight iM_enoughWeight iM_worthSum iM_firstRest iM_leastDrawn), (arI rM_r kM_r 287 fM_r), (arI rM_told kM_told 90 fM_told), (arI rM_st kM_st 90 fM_st)]) hP hD rfl
              have r_f_2264 : RowOk fM_r f_2264 := RowOk.hi r_R hi1_n_2256 ef_2264 (by have q9 := ti_cl (x := x_2259) vx_2259 (by omega); omega)
              refine lv_aload_n hx hb dX7_turnOf_64 rfl (lv_at hl 3 rfl) ?_
              refine va_get (D := (dC, dI)) (ci := 7) (v := .ref rM_trial) (C := RX7) (T := TX7) (N := 48) hx hb hts inX7 hown hK hP 1 rfl rfl 33 (by decide) (hts _ wd_167) (fun _ h9 => h9) rfl dX7_turnOf_65 ?_
              refine lv_bipush (v := 72) hx hb dX7_turnOf_68 (by decide) ?_
              refine lv_iload_n hx hb dX7_turnOf_70 rfl (lv_at hl 4 rfl) ?_
              refine lv_iadd hx hb dX7_turnOf_71 ?_
              refine lv_topi (fun x_2265 ex_2265 => ?_)
              have hG := hG.trans (lt_eq ex_2265)
              have vx_2265 : x_2265.toInt = p0.toInt + 72 := by have q := ti_add ex_2265 kc_72 rfl (by omega) (by omega); omega
              refine va_iald hx hb hK hP 0 0 rfl rfl (ti_in vx_2265 (by omega) (by omega)) dX7_turnOf_72 ?_
              refine lv_topi (fun x_2266 ex_2266 => ?_)
              have hG := hG.trans (lt_eq ex_2266)
              have kx_2266 : (f_2264 x_2265.toNatClampNeg).toInt = x_2266.toInt := by rw [ex_2266]
              have cx_2266 : (f_2264 (72 + p0.toNatClampNeg)).toInt = x_2266.toInt := by rw [show 72 + p0.toNatClampNeg = x_2265.toNatClampNeg from by have q9 := ti_cl (x := x_2265) vx_2265 (by omega); have q_p0 := ti_cl (x := p0) rfl (by omega); omega]; exact kx_2266
              refine lv_iconst (v := 0) hx hb dX7_turnOf_73 (by decide) ?_
              refine lv_bipush (v := 99) hx hb dX7_turnOf_74 (by decide) ?_
              have hFc : ∀ q, va_A [] _ q → A q := fun q h => hA q (Nat.le_trans hS.1 (va_nilA h))
              refine va_calli (va_runS (As := [.int x_2266, .int 0, .int 99]) (rest := []) ⟨hx, hb, hml, hown, hts⟩ (tX7_in l dC dI _ x_2266 0 99 ) (va_cwS 3 hts (wd_S wd_393 wd_394 wd_5 (wd_c wd_395)) rfl rfl rfl (by decide +kernel) ⟨Nat.le_of_ble_eq_true rfl, Nat.le_of_ble_eq_true rfl⟩) ⟨Pw.fb, fun U hU hW => Pn.to hK hE hS hA hU hW⟩ rfl rfl hl.1 rfl (lv_room (Nat.le_of_ble_eq_true rfl)) dX7_turnOf_76 ⟨Nat.le_of_ble_eq_true rfl, Nat.le_of_ble_eq_true rfl⟩) hS (fun q _ h => hFc q h) hFc (fun r u t H locs ht hvm hw hB hz1 hk1 hS => ?_)
              obtain ⟨hP, hD, hK⟩ := Bw.same ht hvm hP hD hK hk1 hFc
              clear hz1 hk1 hvm ht hB
              have hq9 := hw.2
              have hw := hw.1
              obtain ⟨x_2267, rfl⟩ : ∃ z, z = r := ⟨_, rfl⟩
              have hq_x_2267 := hq9
              have hG := hG.trans (lt_eq hq_x_2267.symm)
              have bx_2267 := hw.1
              have dx_2267 := bz_ti bx_2267
              have px_2267 := hw.2
              rcases px_2267 with ⟨gx_2267, hx_2267⟩ | ⟨gx_2267, hx_2267⟩
              · skip
                have l9x_2267 := kc_0
                have m9x_2267 := kc_99
                refine lv_if_eq (tgt := 96) hx hb dX7_turnOf_79 (by decide) (fun c_2268 => ?_) (fun c_2268 => ?_)
                · skip
                  have hG := hG.trans (if_pos c_2268)
                  have gc_2268 := ti_eq c_2268 rfl kc_0
                  exfalso; clear hG; omega
                · skip
                  have hG := hG.trans (if_neg c_2268)
                  have gc_2268 := ti_ne c_2268 rfl kc_0
                  refine lv_aload_n hx hb dX7_turnOf_82 rfl (lv_at hl 3 rfl) ?_
                  refine lv_aload_n hx hb dX7_turnOf_83 rfl (lv_at hl 3 rfl) ?_
                  refine va_get (D := (dC, dI)) (ci := 7) (v := .ref rM_trial) (C := RX7) (T := TX7) (N := 48) hx hb hts inX7 hown hK hP 1 rfl rfl 33 (by decide) (hts _ wd_167) (fun _ h9 => h9) rfl dX7_turnOf_84 ?_
                  have hFc := va_free (wc := [(oc7 oM iM_thrown rM_tape iM_taped iM_size iM_at iM_end iM_token iM_whole iM_nameSize iM_fault iM_place iM_trouble rM_letters iM_failed iM_hasCourt rM_r rM_fresh rM_told rM_read rM_st rM_undone rM_kept iM_undos iM_images rM_fresher iM_fresherSize iM_scale iM_night rM_heardRow rM_cutRow iM_breaths iM_cutMany iM_allBreaths rM_trial rM_words iM_fewestBreaths iM_orderMany iM_orderSum iM_leastOrder rM_often iM_setMany iM_someOf iM_allOf iM_allWeight iM_enoughWeight iM_worthSum iM_firstRest iM_leastDrawn), (arI rM_r kM_r 287 fM_r), (arI rM_told kM_told 90 fM_told), (arI rM_trial kM_trial 90 f_2264)]) hD hS hA [1, 2, 3, 0] rfl
                  refine va_calli (va_runV (As := [.ref rM_trial]) (rest := []) ⟨hx, hb, hml, hown, hts⟩ (tX7_throneBy l dC dI _ oM iM_thrown rM_tape iM_taped iM_size iM_at iM_end iM_token iM_whole iM_nameSize iM_fault iM_place iM_trouble rM_letters iM_failed iM_hasCourt rM_r fM_r kM_r rM_fresh rM_told fM_told kM_told rM_read rM_st rM_undone rM_kept iM_undos iM_images rM_fresher iM_fresherSize iM_scale iM_night rM_heardRow rM_cutRow iM_breaths iM_cutMany iM_allBreaths rM_trial rM_words iM_fewestBreaths iM_orderMany iM_orderSum iM_leastOrder rM_often iM_setMany iM_someOf iM_allOf iM_allWeight iM_enoughWeight iM_worthSum iM_firstRest iM_leastDrawn rM_trial f_2264 kM_trial (by first | omega | decide) (by first | omega | decide) (by first | omega | decide) (by first | omega | decide) (by first | omega | decide) (by first | omega | decide) (by first | omega | decide) (by first | omega | decide) (by first | omega | decide) (by first | omega | decide) (by assumption) (by assumption) (by assumption) (by assumption) (by first | omega | decide | assumption | (have q0 := kc_0; have q1 := kc_1; omega) | (intro h; exact absurd h (by decide)))) (cwV 1 hts (wd_V wd_979 wd_980 wd_981 wd_5 (wd_c wd_982)) rfl rfl rfl (by decide +kernel) ⟨Nat.le_of_ble_eq_true rfl, Nat.le_of_ble_eq_true rfl⟩) ⟨Pw.fb, va_recv hK hP (ci := 7) (q0 := 1) rfl rfl, fun U hU hW => Pw.to (hP.sub [1, 2, 3, 0] rfl) (hD.sub [1, 2, 3, 0] (by decide) rfl) (hK.sub [1, 2, 0] rfl) hE hS hFc hU hW⟩ rfl rfl hl.1 rfl (lv_room (Nat.le_of_ble_eq_true rfl)) dX7_turnOf_87 ⟨Nat.le_of_ble_eq_true rfl, Nat.le_of_ble_eq_true rfl⟩) hS (fun q _ h => hFc q h) hFc (fun r u t H locs ht hvm hw hB hz1 hk1 hS => ?_)
                  have hru9 := hw.2
                  have hw := hw.1
                  obtain ⟨hP, hD, hK⟩ := Bw.go (ws' := [(arI rM_st kM_st 90 fM_st), (oc7 oM iM_thrown rM_tape iM_taped iM_size iM_at iM_end iM_token iM_whole iM_nameSize iM_fault iM_place iM_trouble rM_letters iM_failed iM_hasCourt rM_r rM_fresh rM_told rM_read rM_st rM_undone rM_kept iM_undos iM_images rM_fresher iM_fresherSize iM_scale iM_night rM_heardRow rM_cutRow iM_breaths iM_cutMany iM_allBreaths rM_trial rM_words iM_fewestBreaths iM_orderMany iM_orderSum iM_leastOrder rM_often iM_setMany iM_someOf iM_allOf iM_allWeight iM_enoughWeight iM_worthSum iM_firstRest iM_leastDrawn), (arI rM_r kM_r 287 fM_r), (arI rM_told kM_told 90 fM_told), (arI rM_trial kM_trial 90 f_2264)]) (tys' := [(kM_st, .int), (kM_r, .int), (kM_told, .int), (kM_trial, .int)]) hB rfl ht hvm hP hD hK [1, 2, 3, 0] [4] rfl (by decide) (by decide) [3] hk1 hFc rfl rfl rfl
                  clear hz1 hk1 hvm ht hB
                  obtain ⟨x_2269, rfl⟩ : ∃ z, z = r := ⟨_, rfl⟩
                  have hG := hG.trans (lt_eq hru9.symm)
                  refine lv_iload_n hx hb dX7_turnOf_90 rfl (lv_at hl 2 rfl) ?_
                  refine lv_icmp_eq (tgt := 96) hx hb dX7_turnOf_91 (by decide) (fun c_2270 => ?_) (fun c_2270 => ?_)
                  · skip
                    have hG := hG.trans (if_pos c_2270)
                    have gc_2270 := ti_eq c_2270 rfl rfl
                    obtain ⟨x_2271, ex_2271⟩ : ∃ z : Int32, z = z_2254 + Int32.ofInt 2 := ⟨_, rfl⟩
                    have hG := hG.trans (lt_eq ex_2271)
                    have vx_2271 : x_2271.toInt = z_2254.toInt + 2 := by have q := ti_add (y := 2) ex_2271 rfl kc_2 (by omega) (by omega); omega
                    refine lv_iinc (v := x_2271) (lv' := [(4, .int x_2271), (3, .int z_2250), (2, .int x_2249), (0, .ref oM), (1, .int p0)]) hx hb dX7_turnOf_96 hl (k := 0) rfl ex_2271.symm (by decide) rfl (fun ls hl => ?_)
                    refine lv_goto (tgt := 35) hx hb dX7_turnOf_99 (by decide) ?_
                    exact ih_n_2256 x_2271 f_2264 _ _ _  (by first | omega | decide | assumption) (by first | omega | decide | assumption) (by omega) hG (hP.sub [4, 1, 2, 3, 0] rfl) (hD.sub [4, 1, 2, 3, 0] (by decide) rfl) hS (lv_sub hl [0, 1, 2, 3, 4] rfl)
                  · skip
                    have hG := hG.trans (if_neg c_2270)
                    have gc_2270 := ti_ne c_2270 rfl rfl
                    refine lv_iload_n hx hb dX7_turnOf_94 rfl (lv_at hl 1 rfl) ?_
                    exact W.iret hx hb hr (fun t ht hW => ⟨⟨_, (cI z_2250), rfl, ⟨⟨trivial, trivial⟩, (cI_of z_2250)⟩, ⟨f_2264, (cI_tup hG), Bw.to (hP.sub [1, 2, 3, 0, 4] rfl) (hD.sub [1, 2, 3, 0, 4] (by decide) rfl) (hK.sub [1, 2, 0, 3] rfl) ht hW⟩⟩, hS.F ht⟩) hS.2.2 dX7_turnOf_95
              · skip
                have l9x_2267 := kc_0
                have m9x_2267 := kc_99
                refine lv_if_eq (tgt := 96) hx hb dX7_turnOf_79 (by decide) (fun c_2272 => ?_) (fun c_2272 => ?_)
                · skip
                  have hG := hG.trans (if_pos c_2272)
                  have gc_2272 := ti_eq c_2272 rfl kc_0
                  obtain ⟨x_2273, ex_2273⟩ : ∃ z : Int32, z = z_2254 + Int32.ofInt 2 := ⟨_, rfl⟩
                  have hG := hG.trans (lt_eq ex_2273)
                  have vx_2273 : x_2273.toInt = z_2254.toInt + 2 := by have q := ti_add (y := 2) ex_2273 rfl kc_2 (by omega) (by omega); omega
                  refine lv_iinc (v := x_2273) (lv' := [(4, .int x_2273), (3, .int z_2250), (2, .int x_2249), (0, .ref oM), (1, .int p0)]) hx hb dX7_turnOf_96 hl (k := 0) rfl ex_2273.symm (by decide) rfl (fun ls hl => ?_)
                  refine lv_goto (tgt := 35) hx hb dX7_turnOf_99 (by decide) ?_
                  exact ih_n_2256 x_2273 f_2264 _ _ _  (by first | omega | decide | assumption) (by first | omega | decide | assumption) (by omega) hG (hP.sub [0, 1, 2, 3, 4] rfl) (hD.sub [0, 1, 2, 3, 4] (by decide) rfl) hS (lv_sub hl [0, 1, 2, 3, 4] rfl)
                · skip
                  have hG := hG.trans (if_neg c_2272)
                  have gc_2272 := ti_ne c_2272 rfl kc_0
                  exfalso; clear hG; omega
        exact key_n_2256 (((3 - (-1 : Int32).toInt).toNat) + 1) (-1) f_2251 _ _ _  (by first | omega | decide | assumption | (have q0 := kc_m1; have q1 := kc_0; have q2 := kc_1; omega)) (by first | omega | decide | assumption | (have q0 := kc_m1; have q1 := kc_0; have q2 := kc_1; omega)) (by omega) hG hP hD hS hl
  exact key_n_2252 (((100 - (1 : Int32).toInt).toNat) + 1) 1 f_2248 _ _ _  (by first | omega | decide | assumption | (have q0 := kc_0; have q1 := kc_1; omega)) (by first | omega | decide | assumption | (have q0 := kc_0; have q1 := kc_1; omega)) (by omega) hG hP hD hS hl
set_option maxHeartbeats 4000000 in
set_option maxRecDepth 100000 in
theorem tX7_turn (l : Launch) (dC : Nat → ClassId) (dI : Nat → Nat → Nat) (sz : Nat) (oM : Nat) (iM_thrown : Int32) (rM_tape : Nat) (iM_taped : Int32) (iM_size : Int32) (iM_at : Int32) (iM_end : Int32) (iM_token : Int32) (iM_whole : Int32) (iM_nameSize : Int32) (iM_fault : Int32) (iM_place : Int32) (iM_trouble : Int32) (rM_letters : Nat) (iM_failed : Int32) (iM_hasCourt : Int32) (rM_r : Nat) (fM_r : Nat → Int32) (kM_r : ClassId) (rM_fresh : Nat) (rM_told : Nat) (fM_told : Nat → Int32) (kM_told : ClassId) (rM_read : Nat) (rM_st : Nat) (fM_st : Nat → Int32) (kM_st : ClassId) (rM_undone : Nat) (rM_kept : Nat) (iM_undos : Int32) (iM_images : Int32) (rM_fresher : Nat) (iM_fresherSize : Int32) (iM_scale : Int32) (iM_night : Int32) (rM_heardRow : Nat) (rM_cutRow : Nat) (iM_breaths : Int32) (iM_cutMany : Int32) (iM_allBreaths : Int32) (rM_trial : Nat) (fM_trial : Nat → Int32) (kM_trial : ClassId) (rM_words : Nat) (iM_fewestBreaths : Int32) (iM_orderMany : Int32) (iM_orderSum : Int32) (iM_leastOrder : Int32) (rM_often : Nat) (iM_setMany : Int32) (iM_someOf : Int32) (iM_allOf : Int32) (iM_allWeight : Int64) (iM_enoughWeight : Int64) (iM_worthSum : Int64) (iM_firstRest : Int32) (iM_leastDrawn : Int32) (p0 : Int32) (b_iM_taped : 0 ≤ iM_taped.toInt ∧ iM_taped.toInt ≤ 900) (b_iM_size : 0 ≤ iM_size.toInt ∧ iM_size.toInt ≤ 900) (b_iM_end : 0 ≤ iM_end.toInt ∧ iM_end.toInt ≤ 900) (b_iM_failed : 0 ≤ iM_failed.toInt ∧ iM_failed.toInt ≤ 1) (b_iM_hasCourt : 0 ≤ iM_hasCourt.toInt ∧ iM_hasCourt.toInt ≤ 1) (b_iM_undos : 0 ≤ iM_undos.toInt ∧ iM_undos.toInt ≤ 16) (b_iM_images : 0 ≤ iM_images.toInt ∧ iM_images.toInt ≤ 3) (b_iM_scale : 1 ≤ iM_scale.toInt ∧ iM_scale.toInt ≤ 1296) (b_iM_breaths : 0 ≤ iM_breaths.toInt ∧ iM_breaths.toInt ≤ 399) (b_iM_cutMany : 0 ≤ iM_cutMany.toInt ∧ iM_cutMany.toInt ≤ 399) (r_R : ROk fM_r) (r_C : iM_hasCourt.toInt ≤ 0 ∨ (1 ≤ (fM_r 1).toInt ∧ 0 ≤ (fM_r 6).toInt ∧ (fM_r 6).toInt < (fM_r 1).toInt)) (r_st : RowOk fM_r fM_st) (r_told : RowOk fM_r fM_told) (r_wst : WorOk fM_st)  : Met l yX7_turn (Cond.code yX7_turn cX7_turn 2 (some .int) :: wG) ({ frames := 23, cells := 0, slots := 0, locals := 609 }) (va_Pc [.ref oM, .int p0] (Pw dC dI sz [(oc7 oM iM_thrown rM_tape iM_taped iM_size iM_at iM_end iM_token iM_whole iM_nameSize iM_fault iM_place iM_trouble rM_letters iM_failed iM_hasCourt rM_r rM_fresh rM_told rM_read rM_st rM_undone rM_kept iM_undos iM_images rM_fresher iM_fresherSize iM_scale iM_night rM_heardRow rM_cutRow iM_breaths iM_cutMany iM_allBreaths rM_trial rM_words iM_fewestBreaths iM_orderMany iM_orderSum iM_leastOrder rM_often iM_setMany iM_someOf iM_allOf iM_allWeight iM_enoughWeight iM_worthSum iM_firstRest iM_leastDrawn), (arI rM_r kM_r 287 fM_r), (arI rM_told kM_told 90 fM_told), (arI rM_st kM_st 90 fM_st), (arI rM_trial kM_trial 90 fM_trial)] [(kM_r, .int), (kM_told, .int), (kM_st, .int), (kM_trial, .int)])) (va_Qi (fun (r : Int32) (u : Nat) => (True ∧ True) ∧ r = Int32.ofNat u) (fun (u : Nat) (t : State) => ∃ (niM_thrown : Int32) (niM_trouble : Int32) (nfM_trial : Nat → Int32), (PX7_turn iM_hasCourt fM_r fM_told fM_st iM_scale iM_night fM_trial p0 = (Int32.ofNat u, niM_thrown, niM_trouble, nfM_trial)) ∧ Bw dC dI (va_A [(oc7 oM iM_thrown rM_tape iM_taped iM_size iM_at iM_end iM_token iM_whole iM_nameSize iM_fault iM_place iM_trouble rM_letters iM_failed iM_hasCourt rM_r rM_fresh rM_told rM_read rM_st rM_undone rM_kept iM_undos iM_images rM_fresher iM_fresherSize iM_scale iM_night rM_heardRow rM_cutRow iM_breaths iM_cutMany iM_allBreaths rM_trial rM_words iM_fewestBreaths iM_orderMany iM_orderSum iM_leastOrder rM_often iM_setMany iM_someOf iM_allOf iM_allWeight iM_enoughWeight iM_worthSum iM_firstRest iM_leastDrawn), (arI rM_r kM_r 287 fM_r), (arI rM_told kM_told 90 fM_told), (arI rM_st kM_st 90 fM_st), (arI rM_trial kM_trial 90 fM_trial)] sz) [(oc7 oM niM_thrown rM_tape iM_taped iM_size iM_at iM_end iM_token iM_whole iM_nameSize iM_fault iM_place niM_trouble rM_letters iM_failed iM_hasCourt rM_r rM_fresh rM_told rM_read rM_st rM_undone rM_kept iM_undos iM_images rM_fresher iM_fresherSize iM_scale iM_night rM_heardRow rM_cutRow iM_breaths iM_cutMany iM_allBreaths rM_trial rM_words iM_fewestBreaths iM_orderMany iM_orderSum iM_leastOrder rM_often iM_setMany iM_someOf iM_allOf iM_allWeight iM_enoughWeight iM_worthSum iM_firstRest iM_leastDrawn), (arI rM_r kM_r 287 fM_r), (arI rM_told kM_told 90 fM_told), (arI rM_st kM_st 90 fM_st), (arI rM_trial kM_trial 90 nfM_trial)] [(kM_r, .int), (kM_told, .int), (kM_st, .int), (kM_trial, .int)] t) (va_A [(oc7 oM iM_thrown rM_tape iM_taped iM_size iM_at iM_end iM_token iM_whole iM_nameSize iM_fault iM_place iM_trouble rM_letters iM_failed iM_hasCourt rM_r rM_fresh rM_told rM_read rM_st rM_undone rM_kept iM_undos iM_images rM_fresher iM_fresherSize iM_scale iM_night rM_heardRow rM_cutRow iM_breaths iM_cutMany iM_allBreaths rM_trial rM_words iM_fewestBreaths iM_orderMany iM_orderSum iM_leastOrder rM_often iM_setMany iM_someOf iM_allOf iM_allWeight iM_enoughWeight iM_worthSum iM_firstRest iM_leastDrawn), (arI rM_r kM_r 287 fM_r), (arI rM_told kM_told 90 fM_told), (arI rM_st kM_st 90 fM_st), (arI rM_trial kM_trial 90 fM_trial)] sz)) 0 0 (va_A [(oc7 oM iM_thrown rM_tape iM_taped iM_size iM_at iM_end iM_token iM_whole iM_nameSize iM_fault iM_place iM_trouble rM_letters iM_failed iM_hasCourt rM_r rM_fresh rM_told rM_read rM_st rM_undone rM_kept iM_undos iM_images rM_fresher iM_fresherSize iM_scale iM_night rM_heardRow rM_cutRow iM_breaths iM_cutMany iM_allBreaths rM_trial rM_words iM_fewestBreaths iM_orderMany iM_orderSum iM_leastOrder rM_often iM_setMany iM_someOf iM_allOf iM_allWeight iM_enoughWeight iM_worthSum iM_firstRest iM_leastDrawn), (arI rM_r kM_r 287 fM_r), (arI rM_told kM_told 90 fM_told), (arI rM_st kM_st 90 fM_st), (arI rM_trial kM_trial 90 fM_trial)] sz) := by
  refine Met.ofW (cc := cX7_turn) (maxL := 2) (ret := (some .int)) (by decide) rfl ?_
  intro p e s m args below meth c s₁ B hml hv
  obtain ⟨rfl, hsz, hP, hK, hD0, hE⟩ := hv
  have hx := B.exec
  have hb := B.bytes
  have hr := B.returns
  have hts : ∀ w ∈ wG, w.before ([.ref oM, .int p0] : List Value).toArray s = true := fun w h => atoms_spec (ws := Cond.code yX7_turn cX7_turn 2 (some .int) :: wG) B.pre w (List.mem_cons_of_mem _ h)
  have hown : s.vm.findClass RX7 = some m.cls := findClass_of_methodNamed B.named
  have hlocks := B.notSynchronized
  subst hsz
  have hD := hD0.self (sz := s.heap.size)
  generalize hAe : va_A [(oc7 oM iM_thrown rM_tape iM_taped iM_size iM_at iM_end iM_token iM_whole iM_nameSize iM_fault iM_place iM_trouble rM_letters iM_failed iM_hasCourt rM_r rM_fresh rM_told rM_read rM_st rM_undone rM_kept iM_undos iM_images rM_fresher iM_fresherSize iM_scale iM_night rM_heardRow rM_cutRow iM_breaths iM_cutMany iM_allBreaths rM_trial rM_words iM_fewestBreaths iM_orderMany iM_orderSum iM_leastOrder rM_often iM_setMany iM_someOf iM_allOf iM_allWeight iM_enoughWeight iM_worthSum iM_firstRest iM_leastDrawn), (arI rM_r kM_r 287 fM_r), (arI rM_told kM_told 90 fM_told), (arI rM_st kM_st 90 fM_st), (arI rM_trial kM_trial 90 fM_trial)] s.heap.size = A at hD hE ⊢
  have hA : ∀ q : Nat, s.heap.size ≤ q → A q := fun q h => by rw [← hAe]; exact Or.inr h
  have hS : va_S A s.heap s.heap [] := va_S.rf
  have hl := lv_entry ([.ref oM, .int p0]) (n := 2) (Nat.le_of_ble_eq_true rfl)
  rw [lg_entry_eq]
  generalize (lg_sl ([.ref oM, .int p0]) ++ List.replicate (2 - (lg_sl ([.ref oM, .int p0])).length) Slot.unset).toArray = ls at hl ⊢
  have hl : lv_has ls 2 [(0, .ref oM), (1, .int p0)] := hl
  have hG := PX7_turn_eq iM_hasCourt fM_r fM_told fM_st iM_scale iM_night fM_trial p0
  have s_slips := r_R.slips
  have s_nodes := r_R.nodes
  have s_uns := r_R.uns
  refine lv_aload_n hx hb dX7_turn_0 rfl (lv_at hl 0 rfl) ?_
  have hFc := va_free (wc := [(oc7 oM iM_thrown rM_tape iM_taped iM_size iM_at iM_end iM_token iM_whole iM_nameSize iM_fault iM_place iM_trouble rM_letters iM_failed iM_hasCourt rM_r rM_fresh rM_told rM_read rM_st rM_undone rM_kept iM_undos iM_images rM_fresher iM_fresherSize iM_scale iM_night rM_heardRow rM_cutRow iM_breaths iM_cutMany iM_allBreaths rM_trial rM_words iM_fewestBreaths iM_orderMany iM_orderSum iM_leastOrder rM_often iM_setMany iM_someOf iM_allOf iM_allWeight iM_enoughWeight iM_worthSum iM_firstRest iM_leastDrawn)]) hD hS hA [0] rfl
  refine va_callv (va_runV (As := []) (rest := []) ⟨hx, hb, hml, hown, hts⟩ (tX7_good l dC dI _ oM iM_thrown rM_tape iM_taped iM_size iM_at iM_end iM_token iM_whole iM_nameSize iM_fault iM_place iM_trouble rM_letters iM_failed iM_hasCourt rM_r rM_fresh rM_told rM_read rM_st rM_undone rM_kept iM_undos iM_images rM_fresher iM_fresherSize iM_scale iM_night rM_heardRow rM_cutRow iM_breaths iM_cutMany iM_allBreaths rM_trial rM_words iM_fewestBreaths iM_orderMany iM_orderSum iM_leastOrder rM_often iM_setMany iM_someOf iM_allOf iM_allWeight iM_enoughWeight iM_worthSum iM_firstRest iM_leastDrawn (by first | omega | decide) (by first | omega | decide) (by first | omega | decide) (by first | omega | decide) (by first | omega | decide) (by first | omega | decide) (by first | omega | decide) (by first | omega | decide) (by first | omega | decide) (by first | omega | decide)) (cwV 0 hts (wd_V wd_388 wd_389 wd_390 wd_5 (wd_c wd_391)) rfl rfl rfl (by decide +kernel) ⟨Nat.le_of_ble_eq_true rfl, Nat.le_of_ble_eq_true rfl⟩) ⟨Pw.fb, va_recv hK hP (ci := 7) (q0 := 0) rfl rfl, fun U hU hW => Pw.to (hP.sub [0] rfl) (hD.sub [0] (by decide) rfl) (hK.sub [] rfl) hE hS hFc hU hW⟩ rfl rfl hl.1 rfl (lv_room (Nat.le_of_ble_eq_true rfl)) dX7_turn_1 ⟨Nat.le_of_ble_eq_true rfl, Nat.le_of_ble_eq_true rfl⟩) hS (fun q _ h => hFc q h) hFc (fun u t H locs ht hvm hw hB hz1 hk1 hS => ?_)
  obtain ⟨x_2283, x_2284, b_x_2283, b_x_2284, e_x_2283_0, hB⟩ := hB
  obtain ⟨hP, hD, hK⟩ := Bw.go (ws' := [(arI rM_r kM_r 287 fM_r), (arI rM_told kM_told 90 fM_told), (arI rM_st kM_st 90 fM_st), (arI rM_trial kM_trial 90 fM_trial), (oc7 oM x_2283 rM_tape iM_taped iM_size iM_at iM_end iM_token iM_whole iM_nameSize iM_fault iM_place x_2284 rM_letters iM_failed iM_hasCourt rM_r rM_fresh rM_told rM_read rM_st rM_undone rM_kept iM_undos iM_images rM_fresher iM_fresherSize iM_scale iM_night rM_heardRow rM_cutRow iM_breaths iM_cutMany iM_allBreaths rM_trial rM_words iM_fewestBreaths iM_orderMany iM_orderSum iM_leastOrder rM_often iM_setMany iM_someOf iM_allOf iM_allWeight iM_enoughWeight iM_worthSum iM_firstRest iM_leastDrawn)]) (tys' := [(kM_r, .int), (kM_told, .int), (kM_st, .int), (kM_trial, .int)]) hB rfl ht hvm hP hD hK [0] [1, 2, 3, 4] rfl (by decide) (by decide) [0, 1, 2, 3] hk1 hFc rfl rfl rfl
  clear hz1 hk1 hvm ht hB
  have hG := hG.trans (un2_eq e_x_2283_0)
  refine lv_aload_n hx hb dX7_turn_4 rfl (lv_at hl 0 rfl) ?_
  refine lv_iload_n hx hb dX7_turn_5 rfl (lv_at hl 1 rfl) ?_
  have hFc := va_free (wc := [(oc7 oM x_2283 rM_tape iM_taped iM_size iM_at iM_end iM_token iM_whole iM_nameSize iM_fault iM_place x_2284 rM_letters iM_failed iM_hasCourt rM_r rM_fresh rM_told rM_read rM_st rM_undone rM_kept iM_undos iM_images rM_fresher iM_fresherSize iM_scale iM_night rM_heardRow rM_cutRow iM_breaths iM_cutMany iM_allBreaths rM_trial rM_words iM_fewestBreaths iM_orderMany iM_orderSum iM_leastOrder rM_often iM_setMany iM_someOf iM_allOf iM_allWeight iM_enoughWeight iM_worthSum iM_firstRest iM_leastDrawn), (arI rM_r kM_r 287 fM_r)]) hD hS hA [4, 0] rfl
  refine va_calli (va_runV (As := [.int p0]) (rest := []) ⟨hx, hb, hml, hown, hts⟩ (tX7_isWordNode l dC dI _ oM x_2283 rM_tape iM_taped iM_size iM_at iM_end iM_token iM_whole iM_nameSize iM_fault iM_place x_2284 rM_letters iM_failed iM_hasCourt rM_r fM_r kM_r rM_fresh rM_told rM_read rM_st rM_undone rM_kept iM_undos iM_images rM_fresher iM_fresherSize iM_scale iM_night rM_heardRow rM_cutRow iM_breaths iM_cutMany iM_allBreaths rM_trial rM_words iM_fewestBreaths iM_orderMany iM_orderSum iM_leastOrder rM_often iM_setMany iM_someOf iM_allOf iM_allWeight iM_enoughWeight iM_worthSum iM_firstRest iM_leastDrawn p0 (by first | omega | decide) (by first | omega | decide) (by first | omega | decide) (by first | omega | decide) (by first | omega | decide) (by first | omega | decide) (by first | omega | decide) (by first | omega | decide) (by first | omega | decide) (by first | omega | decide) (by assumption) (by assumption)) (cwV 1 hts (wd_V wd_1139 wd_1140 wd_1141 wd_5 (wd_c wd_1142)) rfl rfl rfl (by decide +kernel) ⟨Nat.le_of_ble_eq_true rfl, Nat.le_of_ble_eq_true rfl⟩) ⟨Pw.fb, va_recv hK hP (ci := 7) (q0 := 4) rfl rfl, fun U hU hW => Pw.to (hP.sub [4, 0] rfl) (hD.sub [4, 0] (by decide) rfl) (hK.sub [0] rfl) hE hS hFc hU hW⟩ rfl rfl hl.1 rfl (lv_room (Nat.le_of_ble_eq_true rfl)) dX7_turn_6 ⟨Nat.le_of_ble_eq_true rfl, Nat.le_of_ble_eq_true rfl⟩) hS (fun q _ h => hFc q h) hFc (fun r u t H locs ht hvm hw hB hz1 hk1 hS => ?_)
  have hru9 := hw.2
  have hw := hw.1
  obtain ⟨hP, hD, hK⟩ := Bw.go (ws' := [(arI rM_told kM_told 90 fM_told), (arI rM_st kM_st 90 fM_st), (arI rM_trial kM_trial 90 fM_trial), (oc7 oM x_2283 rM_tape iM_taped iM_size iM_at iM_end iM_token iM_whole iM_nameSize iM_fault iM_place x_2284 rM_letters iM_failed iM_hasCourt rM_r rM_fresh rM_told rM_read rM_st rM_undone rM_kept iM_undos iM_images rM_fresher iM_fresherSize iM_scale iM_night rM_heardRow rM_cutRow iM_breaths iM_cutMany iM_allBreaths rM_trial rM_words iM_fewestBreaths iM_orderMany iM_orderSum iM_leastOrder rM_often iM_setMany iM_someOf iM_allOf iM_allWeight iM_enoughWeight iM_worthSum iM_firstRest iM_leastDrawn), (arI rM_r kM_r 287 fM_r)]) (tys' := [(kM_told, .int), (kM_st, .int), (kM_trial, .int), (kM_r, .int)]) hB rfl ht hvm hP hD hK [4, 0] [1, 2, 3] rfl (by decide) (by decide) [1, 2, 3] hk1 hFc rfl rfl rfl
  clear hz1 hk1 hvm ht hB
  rcases hw.2 with ⟨rfl, hc_2285⟩ | ⟨rfl, hc_2285⟩
  · skip
    have hG := hG.trans (lt_eq hru9.symm)
    have hG := hG.trans (if_pos rfl)
    refine lv_if_eq (tgt := 20) hx hb dX7_turn_9 (by decide) (fun c => absurd c (by decide)) (fun _ => ?_)
    refine lv_aload_n hx hb dX7_turn_12 rfl (lv_at hl 0 rfl) ?_
    refine lv_iload_n hx hb dX7_turn_13 rfl (lv_at hl 1 rfl) ?_
    have hFc := va_free (wc := [(oc7 oM x_2283 rM_tape iM_taped iM_size iM_at iM_end iM_token iM_whole iM_nameSize iM_fault iM_place x_2284 rM_letters iM_failed iM_hasCourt rM_r rM_fresh rM_told rM_read rM_st rM_undone rM_kept iM_undos iM_images rM_fresher iM_fresherSize iM_scale iM_night rM_heardRow rM_cutRow iM_breaths iM_cutMany iM_allBreaths rM_trial rM_words iM_fewestBreaths iM_orderMany iM_orderSum iM_leastOrder rM_often iM_setMany iM_someOf iM_allOf iM_allWeight iM_enoughWeight iM_worthSum iM_firstRest iM_leastDrawn), (arI rM_r kM_r 287 fM_r), (arI rM_told kM_told 90 fM_told), (arI rM_st kM_st 90 fM_st), (arI rM_trial kM_trial 90 fM_trial)]) hD hS hA [3, 4, 0, 1, 2] rfl
    refine va_calli (va_runV (As := [.int p0]) (rest := []) ⟨hx, hb, hml, hown, hts⟩ (tX7_turnOf l dC dI _ oM x_2283 rM_tape iM_taped iM_size iM_at iM_end iM_token iM_whole iM_nameSize iM_fault iM_place x_2284 rM_letters iM_failed iM_hasCourt rM_r fM_r kM_r rM_fresh rM_told fM_told kM_told rM_read rM_st fM_st kM_st rM_undone rM_kept iM_undos iM_images rM_fresher iM_fresherSize iM_scale iM_night rM_heardRow rM_cutRow iM_breaths iM_cutMany iM_allBreaths rM_trial fM_trial kM_trial rM_words iM_fewestBreaths iM_orderMany iM_orderSum iM_leastOrder rM_often iM_setMany iM_someOf iM_allOf iM_allWeight iM_enoughWeight iM_worthSum iM_firstRest iM_leastDrawn p0 (by first | omega | decide) (by first | omega | decide) (by first | omega | decide) (by first | omega | decide) (by first | omega | decide) (by first | omega | decide) (by first | omega | decide) (by first | omega | decide) (by first | omega | decide) (by first | omega | decide) (by assumption) (by assumption) (by assumption) (by assumption) (by assumption) (by first | omega | decide | assumption | (have q0 := kc_0; have q1 := kc_1; omega) | (intro h; exact absurd h (by decide))) (by first | omega | decide | assumption | (have q0 := kc_0; have q1 := kc_1; omega) | (intro h; exact absurd h (by decide)))) (cwV 1 hts (wd_V wd_1143 wd_1144 wd_1145 wd_5 (wd_c wd_1146)) rfl rfl rfl (by decide +kernel) ⟨Nat.le_of_ble_eq_true rfl, Nat.le_of_ble_eq_true rfl⟩) ⟨Pw.fb, va_recv hK hP (ci := 7) (q0 := 3) rfl rfl, fun U hU hW => Pw.to (hP.sub [3, 4, 0, 1, 2] rfl) (hD.sub [3, 4, 0, 1, 2] (by decide) rfl) (hK.sub [3, 0, 1, 2] rfl) hE hS hFc hU hW⟩ rfl rfl hl.1 rfl (lv_room (Nat.le_of_ble_eq_true rfl)) dX7_turn_14 ⟨Nat.le_of_ble_eq_true rfl, Nat.le_of_ble_eq_true rfl⟩) hS (fun q _ h => hFc q h) hFc (fun r u t H locs ht hvm hw hB hz1 hk1 hS => ?_)
    have hru9 := hw.2
    have hw := hw.1
    obtain ⟨f_2288, e_f_2288_0, hB⟩ := hB
    obtain ⟨hP, hD, hK⟩ := Bw.go (ws' := [(oc7 oM x_2283 rM_tape iM_taped iM_size iM_at iM_end iM_token iM_whole iM_nameSize iM_fault iM_place x_2284 rM_letters iM_failed iM_hasCourt rM_r rM_fresh rM_told rM_read rM_st rM_undone rM_kept iM_undos iM_images rM_fresher iM_fresherSize iM_scale iM_night rM_heardRow rM_cutRow iM_breaths iM_cutMany iM_allBreaths rM_trial rM_words iM_fewestBreaths iM_orderMany iM_orderSum iM_leastOrder rM_often iM_setMany iM_someOf iM_allOf iM_allWeight iM_enoughWeight iM_worthSum iM_firstRest iM_leastDrawn), (arI rM_r kM_r 287 fM_r), (arI rM_told kM_told 90 fM_told), (arI rM_st kM_st 90 fM_st), (arI rM_trial kM_trial 90 f_2288)]) (tys' := [(kM_r, .int), (kM_told, .int), (kM_st, .int), (kM_trial, .int)]) hB rfl ht hvm hP hD hK [3, 4, 0, 1, 2] [] rfl (by decide) (by decide) [] hk1 hFc rfl rfl rfl
    clear hz1 hk1 hvm ht hB
    rw [← hru9] at e_f_2288_0
    obtain ⟨x_2289, rfl⟩ : ∃ z, z = r := ⟨_, rfl⟩
    have hG := hG.trans (un2_eq e_f_2288_0)
    refine lv_goto (tgt := 25) hx hb dX7_turn_17 (by decide) ?_
    exact W.iret hx hb hr (fun t ht hW => ⟨⟨_, (cI x_2289), rfl, ⟨⟨trivial, trivial⟩, (cI_of x_2289)⟩, ⟨x_2283, x_2284, f_2288, (cI_tup hG), Bw.to (hP.sub [0, 1, 2, 3, 4] rfl) (hD.sub [0, 1, 2, 3, 4] (by decide) rfl) (hK.sub [0, 1, 2, 3] rfl) ht hW⟩⟩, hS.F ht⟩) hS.2.2 dX7_turn_25
  · skip
    have hG := hG.trans (lt_eq hru9.symm)
    have hG := hG.trans (if_neg (by decide))
    refine lv_if_eq (tgt := 20) hx hb dX7_turn_9 (by decide) (fun _ => ?_) (fun c => absurd c (by decide))
    refine lv_aload_n hx hb dX7_turn_20 rfl (lv_at hl 0 rfl) ?_
    refine lv_iconst (v := 1) hx hb dX7_turn_21 (by decide) ?_
    have hFc := va_free (wc := [(oc7 oM x_2283 rM_tape iM_taped iM_size iM_at iM_end iM_token iM_whole iM_nameSize iM_fault iM_place x_2284 rM_letters iM_failed iM_hasCourt rM_r rM_fresh rM_told rM_read rM_st rM_undone rM_kept iM_undos iM_images rM_fresher iM_fresherSize iM_scale iM_night rM_heardRow rM_cutRow iM_breaths iM_cutMany iM_allBreaths rM_trial rM_words iM_fewestBreaths iM_orderMany iM_orderSum iM_leastOrder rM_often iM_setMany iM_someOf iM_allOf iM_allWeight iM_enoughWeight iM_worthSum iM_firstRest iM_leastDrawn)]) hD hS hA [3] rfl
    refine va_calli (va_runV (As := [.int 1]) (rest := []) ⟨hx, hb, hml, hown, hts⟩ (tX7_no l dC dI _ oM x_2283 rM_tape iM_taped iM_size iM_at iM_end iM_token iM_whole iM_nameSize iM_fault iM_place x_2284 rM_letters iM_failed iM_hasCourt rM_r rM_fresh rM_told rM_read rM_st rM_undone rM_kept iM_undos iM_images rM_fresher iM_fresherSize iM_scale iM_night rM_heardRow rM_cutRow iM_breaths iM_cutMany iM_allBreaths rM_trial rM_words iM_fewestBreaths iM_orderMany iM_orderSum iM_leastOrder rM_often iM_setMany iM_someOf iM_allOf iM_allWeight iM_enoughWeight iM_worthSum iM_firstRest iM_leastDrawn 1 (by first | omega | decide) (by first | omega | decide) (by first | omega | decide) (by first | omega | decide) (by first | omega | decide) (by first | omega | decide) (by first | omega | decide) (by first | omega | decide) (by first | omega | decide) (by first | omega | decide)) (cwV 1 hts (wd_V wd_396 wd_397 wd_398 wd_5 (wd_c wd_399)) rfl rfl rfl (by decide +kernel) ⟨Nat.le_of_ble_eq_true rfl, Nat.le_of_ble_eq_true rfl⟩) ⟨Pw.fb, va_recv hK hP (ci := 7) (q0 := 3) rfl rfl, fun U hU hW => Pw.to (hP.sub [3] rfl) (hD.sub [3] (by decide) rfl) (hK.sub [] rfl) hE hS hFc hU hW⟩ rfl rfl hl.1 rfl (lv_room (Nat.le_of_ble_eq_true rfl)) dX7_turn_22 ⟨Nat.le_of_ble_eq_true rfl, Nat.le_of_ble_eq_true rfl⟩) hS (fun q _ h => hFc q h) hFc (fun r u t H locs ht hvm hw hB hz1 hk1 hS => ?_)
    have hru9 := hw.2
    have hw := hw.1
    obtain ⟨x_2291, e_x_2291_0, hB⟩ := hB
    obtain ⟨hP, hD, hK⟩ := Bw.go (ws' := [(arI rM_told kM_told 90 fM_told), (arI rM_st kM_st 90 fM_st), (arI rM_trial kM_trial 90 fM_trial), (arI rM_r kM_r 287 fM_r), (oc7 oM x_2283 rM_tape iM_taped iM_size iM_at iM_end iM_token iM_whole iM_nameSize iM_fault iM_place x_2291 rM_letters iM_failed iM_hasCourt rM_r rM_fresh rM_told rM_read rM_st rM_undone rM_kept iM_undos iM_images rM_fresher iM_fresherSize iM_scale iM_night rM_heardRow rM_cutRow iM_breaths iM_cutMany iM_allBreaths rM_trial rM_words iM_fewestBreaths iM_orderMany iM_orderSum iM_leastOrder rM_often iM_setMany iM_someOf iM_allOf iM_allWeight iM_enoughWeight iM_worthSum iM_firstRest iM_leastDrawn)]) (tys' := [(kM_told, .int), (kM_st, .int), (kM_trial, .int), (kM_r, .int)]) hB rfl ht hvm hP hD hK [3] [0, 1, 2, 4] rfl (by decide) (by decide) [0, 1, 2, 3] hk1 hFc rfl rfl rfl
    clear hz1 hk1 hvm ht hB
    rw [← hru9] at e_x_2291_0
    obtain ⟨x_2292, rfl⟩ : ∃ z, z = r := ⟨_, rfl⟩
    have hG := hG.trans (un2_eq e_x_2291_0)
    exact W.iret hx hb hr (fun t ht hW => ⟨⟨_, (cI x_2292), rfl, ⟨⟨trivial, trivial⟩, (cI_of x_2292)⟩, ⟨x_2283, x_2291, fM_trial, (cI_tup hG), Bw.to (hP.sub [4, 3, 0, 1, 2] rfl) (hD.sub [4, 3, 0, 1, 2] (by decide) rfl) (hK.sub [3, 0, 1, 2] rfl) ht hW⟩⟩, hS.F ht⟩) hS.2.2 dX7_turn_25
set_option maxHeartbeats 4000000 in
set_option maxRecDepth 100000 in
theorem tX7_pivot (l : Launch) (dC : Nat → ClassId) (dI : Nat → Nat → Nat) (sz : Nat) (oM : Nat) (iM_thrown : Int32) (rM_tape : Nat) (iM_taped : Int32) (iM_size : Int32) (iM_at : Int32) (iM_end : Int32) (iM_token : Int32) (iM_whole : Int32) (iM_nameSize : Int32) (iM_fault : Int32) (iM_place : Int32) (iM_trouble : Int32) (rM_letters : Nat) (iM_failed : Int32) (iM_hasCourt : Int32) (rM_r : Nat) (fM_r : Nat → Int32) (kM_r : ClassId) (rM_fresh : Nat) (rM_told : Nat) (fM_told : Nat → Int32) (kM_told : ClassId) (rM_read : Nat) (rM_st : Nat) (fM_st : Nat → Int32) (kM_st : ClassId) (rM_undone : Nat) (rM_kept : Nat) (iM_undos : Int32) (iM_images : Int32) (rM_fresher : Nat) (iM_fresherSize : Int32) (iM_scale : Int32) (iM_night : Int32) (rM_heardRow : Nat) (rM_cutRow : Nat) (iM_breaths : Int32) (iM_cutMany : Int32) (iM_allBreaths : Int32) (rM_trial : Nat) (fM_trial : Nat → Int32) (kM_trial : ClassId) (rM_words : Nat) (iM_fewestBreaths : Int32) (iM_orderMany : Int32) (iM_orderSum : Int32) (iM_leastOrder : Int32) (rM_often : Nat) (iM_setMany : Int32) (iM_someOf : Int32) (iM_allOf : Int32) (iM_allWeight : Int64) (iM_enoughWeight : Int64) (iM_worthSum : Int64) (iM_firstRest : Int32) (iM_leastDrawn : Int32) (b_iM_taped : 0 ≤ iM_taped.toInt ∧ iM_taped.toInt ≤ 900) (b_iM_size : 0 ≤ iM_size.toInt ∧ iM_size.toInt ≤ 900) (b_iM_end : 0 ≤ iM_end.toInt ∧ iM_end.toInt ≤ 900) (b_iM_failed : 0 ≤ iM_failed.toInt ∧ iM_failed.toInt ≤ 1) (b_iM_hasCourt : 0 ≤ iM_hasCourt.toInt ∧ iM_hasCourt.toInt ≤ 1) (b_iM_undos : 0 ≤ iM_undos.toInt ∧ iM_undos.toInt ≤ 16) (b_iM_images : 0 ≤ iM_images.toInt ∧ iM_images.toInt ≤ 3) (b_iM_scale : 1 ≤ iM_scale.toInt ∧ iM_scale.toInt ≤ 1296) (b_iM_breaths : 0 ≤ iM_breaths.toInt ∧ iM_breaths.toInt ≤ 399) (b_iM_cutMany : 0 ≤ iM_cutMany.toInt ∧ iM_cutMany.toInt ≤ 399) (r_R : ROk fM_r) (r_C : iM_hasCourt.toInt ≤ 0 ∨ (1 ≤ (fM_r 1).toInt ∧ 0 ≤ (fM_r 6).toInt ∧ (fM_r 6).toInt < (fM_r 1).toInt)) (r_st : RowOk fM_r fM_st) (r_told : RowOk fM_r fM_told) (r_wst : WorOk fM_st)  : Met l yX7_pivot (Cond.code yX7_pivot cX7_pivot 5 (some .int) :: wG) ({ frames := 23, cells := 0, slots := 0, locals := 609 }) (va_Pc [.ref oM] (Pw dC dI sz [(oc7 oM iM_thrown rM_tape iM_taped iM_size iM_at iM_end iM_token iM_whole iM_nameSize iM_fault iM_place iM_trouble rM_letters iM_failed iM_hasCourt rM_r rM_fresh rM_told rM_read rM_st rM_undone rM_kept iM_undos iM_images rM_fresher iM_fresherSize iM_scale iM_night rM_heardRow rM_cutRow iM_breaths iM_cutMany iM_allBreaths rM_trial rM_words iM_fewestBreaths iM_orderMany iM_orderSum iM_leastOrder rM_often iM_setMany iM_someOf iM_allOf iM_allWeight iM_enoughWeight iM_worthSum iM_firstRest iM_leastDrawn), (arI rM_r kM_r 287 fM_r), (arI rM_told kM_told 90 fM_told), (arI rM_st kM_st 90 fM_st), (arI rM_trial kM_trial 90 fM_trial)] [(kM_r, .int), (kM_told, .int), (kM_st, .int), (kM_trial, .int)])) (va_Qi (fun (r : Int32) (u : Nat) => (True ∧ True) ∧ r = Int32.ofNat u) (fun (u : Nat) (t : State) => ∃ (niM_thrown : Int32) (niM_trouble : Int32) (nfM_trial : Nat → Int32), (PX7_pivot iM_hasCourt fM_r fM_told fM_st iM_scale iM_night fM_trial = (Int32.ofNat u, niM_thrown, niM_trouble, nfM_trial)) ∧ Bw dC dI (va_A [(oc7 oM iM_thrown rM_tape iM_taped iM_size iM_at iM_end iM_token iM_whole iM_nameSize iM_fault iM_place iM_trouble rM_letters iM_failed iM_hasCourt rM_r rM_fresh rM_told rM_read rM_st rM_undone rM_kept iM_undos iM_images rM_fresher iM_fresherSize iM_scale iM_night rM_heardRow rM_cutRow iM_breaths iM_cutMany iM_allBreaths rM_trial rM_words iM_fewestBreaths iM_orderMany iM_orderSum iM_leastOrder rM_often iM_setMany iM_someOf iM_allOf iM_allWeight iM_enoughWeight iM_worthSum iM_firstRest iM_leastDrawn), (arI rM_r kM_r 287 fM_r), (arI rM_told kM_told 90 fM_told), (arI rM_st kM_st 90 fM_st), (arI rM_trial kM_trial 90 fM_trial)] sz) [(oc7 oM niM_thrown rM_tape iM_taped iM_size iM_at iM_end iM_token iM_whole iM_nameSize iM_fault iM_place niM_trouble rM_letters iM_failed iM_hasCourt rM_r rM_fresh rM_told rM_read rM_st rM_undone rM_kept iM_undos iM_images rM_fresher iM_fresherSize iM_scale iM_night rM_heardRow rM_cutRow iM_breaths iM_cutMany iM_allBreaths rM_trial rM_words iM_fewestBreaths iM_orderMany iM_orderSum iM_leastOrder rM_often iM_setMany iM_someOf iM_allOf iM_allWeight iM_enoughWeight iM_worthSum iM_firstRest iM_leastDrawn), (arI rM_r kM_r 287 fM_r), (arI rM_told kM_told 90 fM_told), (arI rM_st kM_st 90 fM_st), (arI rM_trial kM_trial 90 nfM_trial)] [(kM_r, .int), (kM_told, .int), (kM_st, .int), (kM_trial, .int)] t) (va_A [(oc7 oM iM_thrown rM_tape iM_taped iM_size iM_at iM_end iM_token iM_whole iM_nameSize iM_fault iM_place iM_trouble rM_letters iM_failed iM_hasCourt rM_r rM_fresh rM_told rM_read rM_st rM_undone rM_kept iM_undos iM_images rM_fresher iM_fresherSize iM_scale iM_night rM_heardRow rM_cutRow iM_breaths iM_cutMany iM_allBreaths rM_trial rM_words iM_fewestBreaths iM_orderMany iM_orderSum iM_leastOrder rM_often iM_setMany iM_someOf iM_allOf iM_allWeight iM_enoughWeight iM_worthSum iM_firstRest iM_leastDrawn), (arI rM_r kM_r 287 fM_r), (arI rM_told kM_told 90 fM_told), (arI rM_st kM_st 90 fM_st), (arI rM_trial kM_trial 90 fM_trial)] sz)) 0 0 (va_A [(oc7 oM iM_thrown rM_tape iM_taped iM_size iM_at iM_end iM_token iM_whole iM_nameSize iM_fault iM_place iM_trouble rM_letters iM_failed iM_hasCourt rM_r rM_fresh rM_told rM_read rM_st rM_undone rM_kept iM_undos iM_images rM_fresher iM_fresherSize iM_scale iM_night rM_heardRow rM_cutRow iM_breaths iM_cutMany iM_allBreaths rM_trial rM_words iM_fewestBreaths iM_orderMany iM_orderSum iM_leastOrder rM_often iM_setMany iM_someOf iM_allOf iM_allWeight iM_enoughWeight iM_worthSum iM_firstRest iM_leastDrawn), (arI rM_r kM_r 287 fM_r), (arI rM_told kM_told 90 fM_told), (arI rM_st kM_st 90 fM_st), (arI rM_trial kM_trial 90 fM_trial)] sz) := by
  refine Met.ofW (cc := cX7_pivot) (maxL := 5) (ret := (some .int)) (by decide) rfl ?_
  intro p e s m args below meth c s₁ B hml hv
  obtain ⟨rfl, hsz, hP, hK, hD0, hE⟩ := hv
  have hx := B.exec
  have hb := B.bytes
  have hr := B.returns
  have hts : ∀ w ∈ wG, w.before ([.ref oM] : List Value).toArray s = true := fun w h => atoms_spec (ws := Cond.code yX7_pivot cX7_pivot 5 (some .int) :: wG) B.pre w (List.mem_cons_of_mem _ h)
  have hown : s.vm.findClass RX7 = some m.cls := findClass_of_methodNamed B.named
  have hlocks := B.notSynchronized
  subst hsz
  have hD := hD0.self (sz := s.heap.size)
  generalize hAe : va_A [(oc7 oM iM_thrown rM_tape iM_taped iM_size iM_at iM_end iM_token iM_whole iM_nameSize iM_fault iM_place iM_trouble rM_letters iM_failed iM_hasCourt rM_r rM_fresh rM_told rM_read rM_st rM_undone rM_kept iM_undos iM_images rM_fresher iM_fresherSize iM_scale iM_night rM_heardRow rM_cutRow iM_breaths iM_cutMany iM_allBreaths rM_trial rM_words iM_fewestBreaths iM_orderMany iM_orderSum iM_leastOrder rM_often iM_setMany iM_someOf iM_allOf iM_allWeight iM_enoughWeight iM_worthSum iM_firstRest iM_leastDrawn), (arI rM_r kM_r 287 fM_r), (arI rM_told kM_told 90 fM_told), (arI rM_st kM_st 90 fM_st), (arI rM_trial kM_trial 90 fM_trial)] s.heap.size = A at hD hE ⊢
  have hA : ∀ q : Nat, s.heap.size ≤ q → A q := fun q h => by rw [← hAe]; exact Or.inr h
  have hS : va_S A s.heap s.heap [] := va_S.rf
  have hl := lv_entry ([.ref oM]) (n := 5) (Nat.le_of_ble_eq_true rfl)
  rw [lg_entry_eq]
  generalize (lg_sl ([.ref oM]) ++ List.replicate (5 - (lg_sl ([.ref oM])).length) Slot.unset).toArray = ls at hl ⊢
  have hl : lv_has ls 5 [(0, .ref oM)] := hl
  have hG := PX7_pivot_eq iM_hasCourt fM_r fM_told fM_st iM_scale iM_night fM_trial
  have s_slips := r_R.slips
  have s_nodes := r_R.nodes
  have s_uns := r_R.uns
  refine lv_aload_n hx hb dX7_pivot_0 rfl (lv_at hl 0 rfl) ?_
  have hFc := va_free (wc := [(oc7 oM iM_thrown rM_tape iM_taped iM_size iM_at iM_end iM_token iM_whole iM_nameSize iM_fault iM_place iM_trouble rM_letters iM_failed iM_hasCourt rM_r rM_fresh rM_told rM_read rM_st rM_undone rM_kept iM_undos iM_images rM_fresher iM_fresherSize iM_scale iM_night rM_heardRow rM_cutRow iM_breaths iM_cutMany iM_allBreaths rM_trial rM_words iM_fewestBreaths iM_orderMany iM_orderSum iM_leastOrder rM_often iM_setMany iM_someOf iM_allOf iM_allWeight iM_enoughWeight iM_worthSum iM_firstRest iM_leastDrawn)]) hD hS hA [0] rfl
  refine va_callv (va_runV (As := []) (rest := []) ⟨hx, hb, hml, hown, hts⟩ (tX7_good l dC dI _ oM iM_thrown rM_tape iM_taped iM_size iM_at iM_end iM_token iM_whole iM_nameSize iM_fault iM_place iM_trouble rM_letters iM_failed iM_hasCourt rM_r rM_fresh rM_told rM_read rM_st rM_undone rM_kept iM_undos iM_images rM_fresher iM_fresherSize iM_scale iM_night rM_heardRow rM_cutRow iM_breaths iM_cutMany iM_allBreaths rM_trial rM_words iM_fewestBreaths iM_orderMany iM_orderSum iM_leastOrder rM_often iM_setMany iM_someOf iM_allOf iM_allWeight iM_enoughWeight iM_worthSum iM_firstRest iM_leastDrawn (by first | omega | decide) (by first | omega | decide) (by first | omega | decide) (by first | omega | decide) (by first | omega | decide) (by first | omega | decide) (by first | omega | decide) (by first | omega | decide) (by first | omega | decide) (by first | omega | decide)) (cwV 0 hts (wd_V wd_388 wd_389 wd_390 wd_5 (wd_c wd_391)) rfl rfl rfl (by decide +kernel) ⟨Nat.le_of_ble_eq_true rfl, Nat.le_of_ble_eq_true rfl⟩) ⟨Pw.fb, va_recv hK hP (ci := 7) (q0 := 0) rfl rfl, fun U hU hW => Pw.to (hP.sub [0] rfl) (hD.sub [0] (by decide) rfl) (hK.sub [] rfl) hE hS hFc hU hW⟩ rfl rfl hl.1 rfl (lv_room (Nat.le_of_ble_eq_true rfl)) dX7_pivot_1 ⟨Nat.le_of_ble_eq_true rfl, Nat.le_of_ble_eq_true rfl⟩) hS (fun q _ h => hFc q h) hFc (fun u t H locs ht hvm hw hB hz1 hk1 hS => ?_)
  obtain ⟨x_2361, x_2362, b_x_2361, b_x_2362, e_x_2361_0, hB⟩ := hB
  obtain ⟨hP, hD, hK⟩ := Bw.go (ws' := [(arI rM_r kM_r 287 fM_r), (arI rM_told kM_told 90 fM_told), (arI rM_st kM_st 90 fM_st), (arI rM_trial kM_trial 90 fM_trial), (oc7 oM x_2361 rM_tape iM_taped iM_size iM_at iM_end iM_token iM_whole iM_nameSize iM_fault iM_place x_2362 rM_letters iM_failed iM_hasCourt rM_r rM_fresh rM_told rM_read rM_st rM_undone rM_kept iM_undos iM_images rM_fresher iM_fresherSize iM_scale iM_night rM_heardRow rM_cutRow iM_breaths iM_cutMany iM_allBreaths rM_trial rM_words iM_fewestBreaths iM_orderMany iM_orderSum iM_leastOrder rM_often iM_setMany iM_someOf iM_allOf iM_allWeight iM_enoughWeight iM_worthSum iM_firstRest iM_leastDrawn)]) (tys' := [(kM_r, .int), (kM_told, .int), (kM_st, .int), (kM_trial, .int)]) hB rfl ht hvm hP hD hK [0] [1, 2, 3, 4] rfl (by decide) (by decide) [0, 1, 2, 3] hk1 hFc rfl rfl rfl
  clear hz1 hk1 hvm ht hB
  have rg_x_2361 := fb_rng x_2361
  have rg_x_2362 := fb_rng x_2362
  have hG := hG.trans (un2_eq e_x_2361_0)
  refine lv_aload_n hx hb dX7_pivot_4 rfl (lv_at hl 0 rfl) ?_
  rcases (id r_C) with r_C0 | r_C1
  · skip
    refine va_get (D := (dC, dI)) (ci := 7) (v := .int iM_hasCourt) (C := RX7) (T := TX7) (N := 48) hx hb hts inX7 hown hK hP 4 rfl rfl 14 (by decide) (hts _ wd_385) (fun _ h9 => h9) rfl dX7_pivot_5 ?_
    have rg_iM_hasCourt := fb_rng iM_hasCourt
    refine lv_if_ne (tgt := 17) hx hb dX7_pivot_8 (by decide) (fun c_2363 => ?_) (fun c_2363 => ?_)
    · skip
      have hG := hG.trans (if_neg c_2363)
      have gc_2363 := ti_ne c_2363 rfl kc_0
      exfalso; clear hG; omega
    · skip
      have hG := hG.trans (if_pos c_2363)
      have gc_2363 := ti_eq c_2363 rfl kc_0
      refine lv_aload_n hx hb dX7_pivot_11 rfl (lv_at hl 0 rfl) ?_
      refine lv_iconst (v := 1) hx hb dX7_pivot_12 (by decide) ?_
      have hFc := va_free (wc := [(oc7 oM x_2361 rM_tape iM_taped iM_size iM_at iM_end iM_token iM_whole iM_nameSize iM_fault iM_place x_2362 rM_letters iM_failed iM_hasCourt rM_r rM_fresh rM_told rM_read rM_st rM_undone rM_kept iM_undos iM_images rM_fresher iM_fresherSize iM_scale iM_night rM_heardRow rM_cutRow iM_breaths iM_cutMany iM_allBreaths rM_trial rM_words iM_fewestBreaths iM_orderMany iM_orderSum iM_leastOrder rM_often iM_setMany iM_someOf iM_allOf iM_allWeight iM_enoughWeight iM_worthSum iM_firstRest iM_leastDrawn)]) hD hS hA [4] rfl
      refine va_calli (va_runV (As := [.int 1]) (rest := []) ⟨hx, hb, hml, hown, hts⟩ (tX7_no l dC dI _ oM x_2361 rM_tape iM_taped iM_size iM_at iM_end iM_token iM_whole iM_nameSize iM_fault iM_place x_2362 rM_letters iM_failed iM_hasCourt rM_r rM_fresh rM_told rM_read rM_st rM_undone rM_kept iM_undos iM_images rM_fresher iM_fresherSize iM_scale iM_night rM_heardRow rM_cutRow iM_breaths iM_cutMany iM_allBreaths rM_trial rM_words iM_fewestBreaths iM_orderMany iM_orderSum iM_leastOrder rM_often iM_setMany iM_someOf iM_allOf iM_allWeight iM_enoughWeight iM_worthSum iM_firstRest iM_leastDrawn 1 (by first | omega | decide) (by first | omega | decide) (by first | omega | decide) (by first | omega | decide) (by first | omega | decide) (by first | omega | decide) (by first | omega | decide) (by first | omega | decide) (by first | omega | decide) (by first | omega | decide)) (cwV 1 hts (wd_V wd_396 wd_397 wd_398 wd_5 (wd_c wd_399)) rfl rfl rfl (by decide +kernel) ⟨Nat.le_of_ble_eq_true rfl, Nat.le_of_ble_eq_true rfl⟩) ⟨Pw.fb, va_recv hK hP (ci := 7) (q0 := 4) rfl rfl, fun U hU hW => Pw.to (hP.sub [4] rfl) (hD.sub [4] (by decide) rfl) (hK.sub [] rfl) hE hS hFc hU hW⟩ rfl rfl hl.1 rfl (lv_room (Nat.le_of_ble_eq_true rfl)) dX7_pivot_13 ⟨Nat.le_of_ble_eq_true rfl, Nat.le_of_ble_eq_true rfl⟩) hS (fun q _ h => hFc q h) hFc (fun r u t H locs ht hvm hw hB hz1 hk1 hS => ?_)
      have hru9 := hw.2
      have hw := hw.1
      obtain ⟨x_2364, e_x_2364_0, hB⟩ := hB
      obtain ⟨hP, hD, hK⟩ := Bw.go (ws' := [(arI rM_r kM_r 287 fM_r), (arI rM_told kM_told 90 fM_told), (arI rM_st kM_st 90 fM_st), (arI rM_trial kM_trial 90 fM_trial), (oc7 oM x_2361 rM_tape iM_taped iM_size iM_at iM_end iM_token iM_whole iM_nameSize iM_fault iM_place x_2364 rM_letters iM_failed iM_hasCourt rM_r rM_fresh rM_told rM_read rM_st rM_undone rM_kept iM_undos iM_images rM_fresher iM_fresherSize iM_scale iM_night rM_heardRow rM_cutRow iM_breaths iM_cutMany iM_allBreaths rM_trial rM_words iM_fewestBreaths iM_orderMany iM_orderSum iM_leastOrder rM_often iM_setMany iM_someOf iM_allOf iM_allWeight iM_enoughWeight iM_worthSum iM_firstRest iM_leastDrawn)]) (tys' := [(kM_r, .int), (kM_told, .int), (kM_st, .int), (kM_trial, .int)]) hB rfl ht hvm hP hD hK [4] [0, 1, 2, 3] rfl (by decide) (by decide) [0, 1, 2, 3] hk1 hFc rfl rfl rfl
      clear hz1 hk1 hvm ht hB
      have rg_x_2364 := fb_rng x_2364
      rw [← hru9] at e_x_2364_0
      obtain ⟨x_2365, rfl⟩ : ∃ z, z = r := ⟨_, rfl⟩
      have hG := hG.trans (un2_eq e_x_2364_0)
      have rg_x_2365 := fb_rng x_2365
      exact W.iret hx hb hr (fun t ht hW => ⟨⟨_, (cI x_2365), rfl, ⟨⟨trivial, trivial⟩, (cI_of x_2365)⟩, ⟨x_2361, x_2364, fM_trial, (cI_tup hG), Bw.to (hP.sub [4, 0, 1, 2, 3] rfl) (hD.sub [4, 0, 1, 2, 3] (by decide) rfl) (hK.sub [0, 1, 2, 3] rfl) ht hW⟩⟩, hS.F ht⟩) hS.2.2 dX7_pivot_16
  · skip
    refine va_get (D := (dC, dI)) (ci := 7) (v := .int iM_hasCourt) (C := RX7) (T := TX7) (N := 48) hx hb hts inX7 hown hK hP 4 rfl rfl 14 (by decide) (hts _ wd_385) (fun _ h9 => h9) rfl dX7_pivot_5 ?_
    have rg_iM_hasCourt := fb_rng iM_hasCourt
    refine lv_if_ne (tgt := 17) hx hb dX7_pivot_8 (by decide) (fun c_2366 => ?_) (fun c_2366 => ?_)
    · skip
      have hG := hG.trans (if_neg c_2366)
      have gc_2366 := ti_ne c_2366 rfl kc_0
      refine lv_bipush (v := (-2)) hx hb dX7_pivot_17 (by decide) ?_
      refine lv_istore_n (lv' := [(1, .int (-2)), (0, .ref oM)]) hx hb dX7_pivot_19 rfl hl (by decide) rfl (fun ls hl => ?_)
      refine lv_ldc hx hb hown (hts _ wd_653) dX7_pivot_20 ?_
      refine lv_istore_n (lv' := [(2, .int 100000000), (1, .int (-2)), (0, .ref oM)]) hx hb dX7_pivot_22 rfl hl (by decide) rfl (fun ls hl => ?_)
      refine lv_iconst (v := 0) hx hb dX7_pivot_23 (by decide) ?_
      refine lv_istore_n (lv' := [(3, .int 0), (2, .int 100000000), (1, .int (-2)), (0, .ref oM)]) hx hb dX7_pivot_24 rfl hl (by decide) rfl (fun ls hl => ?_)
      have hl := lv_sub hl (l' := [(3, .int 0), (2, .int 100000000), (1, .int (-2)), (0, .ref oM)]) [0, 1, 2, 3] rfl
      have key_n_2371 : ∀ (n_2371 : Nat) (z_2367 : Int32) (z_2368 : Int32) (z_2369 : Int32) (f_2370 : Nat → Int32) (H : Heap) (locs : List Loc) (ls : Array Slot), (0 ≤ z_2367.toInt ∧ z_2367.toInt ≤ 2147483647) → (2147483647 - z_2367.toInt).toNat < n_2371 → (PX7_pivot iM_hasCourt fM_r fM_told fM_st iM_scale iM_night fM_trial = HX7_pivot_0 fM_r fM_told fM_st iM_scale iM_night x_2361 x_2362 n_2371 z_2367 z_2368 z_2369 f_2370) → va_P (dC, dI) vwCl [(arI rM_r kM_r 287 fM_r), (arI rM_told kM_told 90 fM_told), (arI rM_st kM_st 90 fM_st), (arI rM_trial kM_trial 90 f_2370), (oc7 oM x_2361 rM_tape iM_taped iM_size iM_at iM_end iM_token iM_whole iM_nameSize iM_fault iM_place x_2362 rM_letters iM_failed iM_hasCourt rM_r rM_fresh rM_told rM_read rM_st rM_undone rM_kept iM_undos iM_images rM_fresher iM_fresherSize iM_scale iM_night rM_heardRow rM_cutRow iM_breaths iM_cutMany iM_allBreaths rM_trial rM_words iM_fewestBreaths iM_orderMany iM_orderSum iM_leastOrder rM_often iM_setMany iM_someOf iM_allOf iM_allWeight iM_enoughWeight iM_worthSum iM_firstRest iM_leastDrawn)] H → va_D A [(arI rM_r kM_r 287 fM_r), (arI rM_told kM_told 90 fM_told), (arI rM_st kM_st 90 fM_st), (arI rM_trial kM_trial 90 f_2370), (oc7 oM x_2361 rM_tape iM_taped iM_size iM_at iM_end iM_token iM_whole iM_nameSize iM_fault iM_place x_2362 rM_letters iM_failed iM_hasCourt rM_r rM_fresh rM_told rM_read rM_st rM_undone rM_kept iM_undos iM_images rM_fresher iM_fresherSize iM_scale iM_night rM_heardRow rM_cutRow iM_breaths iM_cutMany iM_allBreaths rM_trial rM_words iM_fewestBreaths iM_orderMany iM_orderSum iM_leastOrder rM_often iM_setMany iM_someOf iM_allOf iM_allWeight iM_enoughWeight iM_worthSum iM_firstRest iM_leastDrawn)] → va_S A s.heap H locs → lv_has ls 5 [(3, .int z_2367), (2, .int z_2368), (1, .int z_2369), (0, .ref oM)] → W p l e (headSpec (Cond.code yX7_pivot cX7_pivot 5 (some .int) :: wG) ({ frames := 23, cells := 0, slots := 0, locals := 609 })).room s m ([.ref oM] : List Value).toArray below meth c H locs 0 0 (MQ below (va_Qi (fun (r : Int32) (u : Nat) => (True ∧ True) ∧ r = Int32.ofNat u) (fun (u : Nat) (t : State) => ∃ (niM_thrown : Int32) (niM_trouble : Int32) (nfM_trial : Nat → Int32), (PX7_pivot iM_hasCourt fM_r fM_told fM_st iM_scale iM_night fM_trial = (Int32.ofNat u, niM_thrown, niM_trouble, nfM_trial)) ∧ Bw dC dI A [(oc7 oM niM_thrown rM_tape iM_taped iM_size iM_at iM_end iM_token iM_whole iM_nameSize iM_fault iM_place niM_trouble rM_letters iM_failed iM_hasCourt rM_r rM_fresh rM_told rM_read rM_st rM_undone rM_kept iM_undos iM_images rM_fresher iM_fresherSize iM_scale iM_night rM_heardRow rM_cutRow iM_breaths iM_cutMany iM_allBreaths rM_trial rM_words iM_fewestBreaths iM_orderMany iM_orderSum iM_leastOrder rM_often iM_setMany iM_someOf iM_allOf iM_allWeight iM_enoughWeight iM_worthSum iM_firstRest iM_leastDrawn), (arI rM_r kM_r 287 fM_r), (arI rM_told kM_told 90 fM_told), (arI rM_st kM_st 90 fM_st), (arI rM_trial kM_trial 90 nfM_trial)] [(kM_r, .int), (kM_told, .int), (kM_st, .int), (kM_trial, .int)] t) A) ([.ref oM] : List Value).toArray s 0 0 A) (F0 m 25 ls []) := by
        intro n_2371
        induction n_2371 with
        | zero => intro z_2367 z_2368 z_2369 f_2370 H locs ls hi0_n_2371 hm; exact absurd hm (by omega)
        | succ n_2371 ih_n_2371 =>
          intro z_2367 z_2368 z_2369 f_2370 H locs ls hi0_n_2371 hm hG hP hD hS hl
          have hG := hG.trans (HX7_pivot_0_eq _ _ _ _ _ _ _ _ _ _ _ _)
          have rg_z_2367 := fb_rng z_2367
          have rg_z_2368 := fb_rng z_2368
          have rg_z_2369 := fb_rng z_2369
          refine lv_iload_n hx hb dX7_pivot_25 rfl (lv_at hl 0 rfl) ?_
          refine lv_aload_n hx hb dX7_pivot_26 rfl (lv_at hl 3 rfl) ?_
          refine va_get (D := (dC, dI)) (ci := 7) (v := .ref rM_r) (C := RX7) (T := TX7) (N := 48) hx hb hts inX7 hown hK hP 4 rfl rfl 15 (by decide) (hts _ wd_155) (fun _ h9 => h9) rfl dX7_pivot_27 ?_
          refine lv_iconst (v := 1) hx hb dX7_pivot_30 (by decide) ?_
          refine va_iald hx hb hK hP 0 0 rfl rfl (by unfold vp_in; decide) dX7_pivot_31 ?_
          refine lv_topi (fun x_2372 ex_2372 => ?_)
          have hG := hG.trans (lt_eq ex_2372)
          have rg_x_2372 := fb_rng x_2372
          have cx_2372 : (fM_r 1).toInt = x_2372.toInt := congrArg Int32.toInt (show fM_r 1 = x_2372 from ex_2372.symm)
          have sx_2372 := r_R.nodes
          refine lv_icmp_ge (tgt := 84) hx hb dX7_pivot_32 (by decide) (fun c_2373 => ?_) (fun c_2373 => ?_)
          · skip
            have hG := hG.trans (if_pos c_2373)
            have gc_2373 := ti_le c_2373 rfl rfl
            refine lv_iload_n hx hb dX7_pivot_84 rfl (lv_at hl 2 rfl) ?_
            exact W.iret hx hb hr (fun t ht hW => ⟨⟨_, (cI z_2369), rfl, ⟨⟨trivial, trivial⟩, (cI_of z_2369)⟩, ⟨x_2361, x_2362, f_2370, (cI_tup hG), Bw.to (hP.sub [4, 0, 1, 2, 3] rfl) (hD.sub [4, 0, 1, 2, 3] (by decide) rfl) (hK.sub [0, 1, 2, 3] rfl) ht hW⟩⟩, hS.F ht⟩) hS.2.2 dX7_pivot_85
          · skip
            have hG := hG.trans (if_neg c_2373)
            have gc_2373 := ti_nle c_2373 rfl rfl
            refine lv_aload_n hx hb dX7_pivot_35 rfl (lv_at hl 3 rfl) ?_
            refine va_get (D := (dC, dI)) (ci := 7) (v := .ref rM_r) (C := RX7) (T := TX7) (N := 48) hx hb hts inX7 hown hK hP 4 rfl rfl 15 (by decide) (hts _ wd_155) (fun _ h9 => h9) rfl dX7_pivot_36 ?_
            refine lv_bipush (v := 9) hx hb dX7_pivot_39 (by decide) ?_
            refine lv_iload_n hx hb dX7_pivot_41 rfl (lv_at hl 0 rfl) ?_
            refine lv_iadd hx hb dX7_pivot_42 ?_
            refine lv_topi (fun x_2374 ex_2374 => ?_)
            have hG := hG.trans (lt_eq ex_2374)
            have vx_2374 : x_2374.toInt = z_2367.toInt + 9 := by have q := ti_add ex_2374 kc_9 rfl (by omega) (by omega); omega
            refine va_iald hx hb hK hP 0 0 rfl rfl (ti_in vx_2374 (by omega) (by omega)) dX7_pivot_43 ?_
            refine lv_topi (fun x_2375 ex_2375 => ?_)
            have hG := hG.trans (lt_eq ex_2375)
            have rg_x_2375 := fb_rng x_2375
            have kx_2375 : (fM_r x_2374.toNatClampNeg).toInt = x_2375.toInt := by rw [ex_2375]
            have cx_2375 : (fM_r (9 + z_2367.toNatClampNeg)).toInt = x_2375.toInt := by rw [show 9 + z_2367.toNatClampNeg = x_2374.toNatClampNeg from by have q9 := ti_cl (x := x_2374) vx_2374 (by omega); have q_z_2367 := ti_cl (x := z_2367) rfl (by omega); omega]; exact kx_2375
            have sx_2375 := r_R.kind x_2374.toNatClampNeg (by have q9 := ti_cl (x := x_2374) vx_2374 (by omega); omega) (by have q9 := ti_cl (x := x_2374) vx_2374 (by omega); omega)
            refine lv_if_ne (tgt := 55) hx hb dX7_pivot_44 (by decide) (fun c_2376 => ?_) (fun c_2376 => ?_)
            · skip
              have hG := hG.trans (if_neg c_2376)
              have gc_2376 := ti_ne c_2376 rfl kc_0
              refine lv_bipush (v := (-2)) hx hb dX7_pivot_55 (by decide) ?_
              refine lv_istore (lv' := [(4, .int (-2)), (3, .int z_2367), (2, .int z_2368), (1, .int z_2369), (0, .ref oM)]) hx hb dX7_pivot_57 hl (by decide) rfl (fun ls hl => ?_)
              refine lv_iload hx hb dX7_pivot_59 (lv_at hl 0 rfl) ?_
              refine lv_if_lt (tgt := 78) hx hb dX7_pivot_61 (by decide) (fun _ => ?_) (fun c => absurd c (by decide))
              obtain ⟨x_2378, ex_2378⟩ : ∃ z : Int32, z = z_2367 + Int32.ofInt 1 := ⟨_, rfl⟩
              have hG := hG.trans (lt_eq ex_2378)
              have vx_2378 : x_2378.toInt = z_2367.toInt + 1 := by have q := ti_add (y := 1) ex_2378 rfl kc_1 (by omega) (by omega); omega
              refine lv_iinc (v := x_2378) (lv' := [(3, .int x_2378), (4, .int (-2)), (2, .int z_2368), (1, .int z_2369), (0, .ref oM)]) hx hb dX7_pivot_78 hl (k := 1) rfl ex_2378.symm (by decide) rfl (fun ls hl => ?_)
              refine lv_goto (tgt := 25) hx hb dX7_pivot_81 (by decide) ?_
              exact ih_n_2371 x_2378 z_2368 z_2369 f_2370 _ _ _  (by first | omega | decide | assumption) (by omega) hG (hP.sub [0, 1, 2, 3, 4] rfl) (hD.sub [0, 1, 2, 3, 4] (by decide) rfl) hS (lv_sub hl [0, 2, 3, 4] rfl)
            · skip
              have hG := hG.trans (if_pos c_2376)
              have gc_2376 := ti_eq c_2376 rfl kc_0
              refine lv_aload_n hx hb dX7_pivot_47 rfl (lv_at hl 3 rfl) ?_
              refine lv_iload_n hx hb dX7_pivot_48 rfl (lv_at hl 0 rfl) ?_
              have hFc := va_free (wc := [(oc7 oM x_2361 rM_tape iM_taped iM_size iM_at iM_end iM_token iM_whole iM_nameSize iM_fault iM_place x_2362 rM_letters iM_failed iM_hasCourt rM_r rM_fresh rM_told rM_read rM_st rM_undone rM_kept iM_undos iM_images rM_fresher iM_fresherSize iM_scale iM_night rM_heardRow rM_cutRow iM_breaths iM_cutMany iM_allBreaths rM_trial rM_words iM_fewestBreaths iM_orderMany iM_orderSum iM_leastOrder rM_often iM_setMany iM_someOf iM_allOf iM_allWeight iM_enoughWeight iM_worthSum iM_firstRest iM_leastDrawn), (arI rM_r kM_r 287 fM_r), (arI rM_told kM_told 90 fM_told), (arI rM_st kM_st 90 fM_st), (arI rM_trial kM_trial 90 f_2370)]) hD hS hA [4, 0, 1, 2, 3] rfl
              refine va_calli (va_runV (As := [.int z_2367]) (rest := []) ⟨hx, hb, hml, hown, hts⟩ (tX7_turnOf l dC dI _ oM x_2361 rM_tape iM_taped iM_size iM_at iM_end iM_token iM_whole iM_nameSize iM_fault iM_place x_2362 rM_letters iM_failed iM_hasCourt rM_r fM_r kM_r rM_fresh rM_told fM_told kM_told rM_read rM_st fM_st kM_st rM_undone rM_kept iM_undos iM_images rM_fresher iM_fresherSize iM_scale iM_night rM_heardRow rM_cutRow iM_breaths iM_cutMany iM_allBreaths rM_trial f_2370 kM_trial rM_words iM_fewestBreaths iM_orderMany iM_orderSum iM_leastOrder rM_often iM_setMany iM_someOf iM_allOf iM_allWeight iM_enoughWeight iM_worthSum iM_firstRest iM_leastDrawn z_2367 (by first | omega | decide) (by first | omega | decide) (by first | omega | decide) (by first | omega | decide) (by first | omega | decide) (by first | omega | decide) (by first | omega | decide) (by first | omega | decide) (by first | omega | decide) (by first | omega | decide) (by assumption) (by assumption) (by assumption) (by assumption) (by assumption) (by first | omega | decide | assumption | (have q0 := kc_0; have q1 := kc_1; omega) | (intro h; exact absurd h (by decide))) (by first | omega | decide | assumption | (have q0 := kc_0; have q1 := kc_1; omega) | (intro h; exact absurd h (by decide)))) (cwV 1 hts (wd_V wd_1143 wd_1144 wd_1145 wd_5 (wd_c wd_1146)) rfl rfl rfl (by decide +kernel) ⟨Nat.le_of_ble_eq_true rfl, Nat.le_of_ble_eq_true rfl⟩) ⟨Pw.fb, va_recv hK hP (ci := 7) (q0 := 4) rfl rfl, fun U hU hW => Pw.to (hP.sub [4, 0, 1, 2, 3] rfl) (hD.sub [4, 0, 1, 2, 3] (by decide) rfl) (hK.sub [0, 1, 2, 3] rfl) hE hS hFc hU hW⟩ rfl rfl hl.1 rfl (lv_room (Nat.le_of_ble_eq_true rfl)) dX7_pivot_49 ⟨Nat.le_of_ble_eq_true rfl, Nat.le_of_ble_eq_true rfl⟩) hS (fun q _ h => hFc q h) hFc (fun r u t H locs ht hvm hw hB hz1 hk1 hS => ?_)
              have hru9 := hw.2
              have hw := hw.1
              obtain ⟨f_2379, e_f_2379_0, hB⟩ := hB
              obtain ⟨hP, hD, hK⟩ := Bw.go (ws' := [(oc7 oM x_2361 rM_tape iM_taped iM_size iM_at iM_end iM_token iM_whole iM_nameSize iM_fault iM_place x_2362 rM_letters iM_failed iM_hasCourt rM_r rM_fresh rM_told rM_read rM_st rM_undone rM_kept iM_undos iM_images rM_fresher iM_fresherSize iM_scale iM_night rM_heardRow rM_cutRow iM_breaths iM_cutMany iM_allBreaths rM_trial rM_words iM_fewestBreaths iM_orderMany iM_orderSum iM_leastOrder rM_often iM_setMany iM_someOf iM_allOf iM_allWeight iM_enoughWeight iM_worthSum iM_firstRest iM_leastDrawn), (arI rM_r kM_r 287 fM_r), (arI rM_told kM_told 90 fM_told), (arI rM_st kM_st 90 fM_st), (arI rM_trial kM_trial 90 f_2379)]) (tys' := [(kM_r, .int), (kM_told, .int), (kM_st, .int), (kM_trial, .int)]) hB rfl ht hvm hP hD hK [4, 0, 1, 2, 3] [] rfl (by decide) (by decide) [] hk1 hFc rfl rfl rfl
              clear hz1 hk1 hvm ht hB
              rw [← hru9] at e_f_2379_0
              obtain ⟨x_2380, rfl⟩ : ∃ z, z = r := ⟨_, rfl⟩
              have hG := hG.trans (un2_eq e_f_2379_0)
              have rg_x_2380 := fb_rng x_2380
              refine lv_goto (tgt := 57) hx hb dX7_pivot_52 (by decide) ?_
              refine lv_istore (lv' := [(4, .int x_2380), (3, .int z_2367), (2, .int z_2368), (1, .int z_2369), (0, .ref oM)]) hx hb dX7_pivot_57 hl (by decide) rfl (fun ls hl => ?_)
              refine lv_iload hx hb dX7_pivot_59 (lv_at hl 0 rfl) ?_
              refine lv_if_lt (tgt := 78) hx hb dX7_pivot_61 (by decide) (fun c_2381 => ?_) (fun c_2381 => ?_)
              · skip
                have hG := hG.trans (if_pos c_2381)
                have gc_2381 := ti_lt c_2381 rfl kc_0
                obtain ⟨x_2382, ex_2382⟩ : ∃ z : Int32, z = z_2367 + Int32.ofInt 1 := ⟨_, rfl⟩
                have hG := hG.trans (lt_eq ex_2382)
                have vx_2382 : x_2382.toInt = z_2367.toInt + 1 := by have q := ti_add (y := 1) ex_2382 rfl kc_1 (by omega) (by omega); omega
                refine lv_iinc (v := x_2382) (lv' := [(3, .int x_2382), (4, .int x_2380), (2, .int z_2368), (1, .int z_2369), (0, .ref oM)]) hx hb dX7_pivot_78 hl (k := 1) rfl ex_2382.symm (by decide) rfl (fun ls hl => ?_)
                refine lv_goto (tgt := 25) hx hb dX7_pivot_81 (by decide) ?_
                exact ih_n_2371 x_2382 z_2368 z_2369 f_2379 _ _ _  (by first | omega | decide | assumption) (by omega) hG (hP.sub [1, 2, 3, 4, 0] rfl) (hD.sub [1, 2, 3, 4, 0] (by decide) rfl) hS (lv_sub hl [0, 2, 3, 4] rfl)
              · skip
                have hG := hG.trans (if_neg c_2381)
                have gc_2381 := ti_nlt c_2381 rfl kc_0
                refine lv_iload hx hb dX7_pivot_64 (lv_at hl 0 rfl) ?_
                refine lv_iload_n hx hb dX7_pivot_66 rfl (lv_at hl 2 rfl) ?_
                refine lv_icmp_lt (tgt := 73) hx hb dX7_pivot_67 (by decide) (fun c_2383 => ?_) (fun c_2383 => ?_)
                · skip
                  have hG := hG.trans (if_pos c_2383)
                  have gc_2383 := ti_lt c_2383 rfl rfl
                  refine lv_iload_n hx hb dX7_pivot_73 rfl (lv_at hl 1 rfl) ?_
                  refine lv_istore_n (lv' := [(1, .int z_2367), (4, .int x_2380), (3, .int z_2367), (2, .int z_2368), (0, .ref oM)]) hx hb dX7_pivot_74 rfl hl (by decide) rfl (fun ls hl => ?_)
                  refine lv_iload hx hb dX7_pivot_75 (lv_at hl 1 rfl) ?_
                  refine lv_istore_n (lv' := [(2, .int x_2380), (1, .int z_2367), (4, .int x_2380), (3, .int z_2367), (0, .ref oM)]) hx hb dX7_pivot_77 rfl hl (by decide) rfl (fun ls hl => ?_)
                  obtain ⟨x_2384, ex_2384⟩ : ∃ z : Int32, z = z_2367 + Int32.ofInt 1 := ⟨_, rfl⟩
                  have hG := hG.trans (lt_eq ex_2384)
                  have vx_2384 : x_2384.toInt = z_2367.toInt + 1 := by have q := ti_add (y := 1) ex_2384 rfl kc_1 (by omega) (by omega); omega
                  refine lv_iinc (v := x_2384) (lv' := [(3, .int x_2384), (2, .int x_2380), (1, .int z_2367), (4, .int x_2380), (0, .ref oM)]) hx hb dX7_pivot_78 hl (k := 3) rfl ex_2384.symm (by decide) rfl (fun ls hl => ?_)
                  refine lv_goto (tgt := 25) hx hb dX7_pivot_81 (by decide) ?_
                  exact ih_n_2371 x_2384 x_2380 z_2367 f_2379 _ _ _  (by first | omega | decide | assumption) (by omega) hG (hP.sub [1, 2, 3, 4, 0] rfl) (hD.sub [1, 2, 3, 4, 0] (by decide) rfl) hS (lv_sub hl [0, 1, 2, 4] rfl)
                · skip
                  have hG := hG.trans (if_neg c_2383)
                  have gc_2383 := ti_nlt c_2383 rfl rfl
                  refine lv_goto (tgt := 78) hx hb dX7_pivot_70 (by decide) ?_
                  obtain ⟨x_2385, ex_2385⟩ : ∃ z : Int32, z = z_2367 + Int32.ofInt 1 := ⟨_, rfl⟩
                  have hG := hG.trans (lt_eq ex_2385)
                  have vx_2385 : x_2385.toInt = z_2367.toInt + 1 := by have q := ti_add (y := 1) ex_2385 rfl kc_1 (by omega) (by omega); omega
                  refine lv_iinc (v := x_2385) (lv' := [(3, .int x_2385), (4, .int x_2380), (2, .int z_2368), (1, .int z_2369), (0, .ref oM)]) hx hb dX7_pivot_78 hl (k := 1) rfl ex_2385.symm (by decide) rfl (fun ls hl => ?_)
                  refine lv_goto (tgt := 25) hx hb dX7_pivot_81 (by decide) ?_
                  exact ih_n_2371 x_2385 z_2368 z_2369 f_2379 _ _ _  (by first | omega | decide | assumption) (by omega) hG (hP.sub [1, 2, 3, 4, 0] rfl) (hD.sub [1, 2, 3, 4, 0] (by decide) rfl) hS (lv_sub hl [0, 2, 3, 4] rfl)
      exact key_n_2371 (((2147483647 - (0 : Int32).toInt).toNat) + 1) 0 100000000 (-2) fM_trial _ _ _  (by first | omega | decide | assumption | (have q0 := kc_m2; have q1 := kc_0; have q2 := kc_1; have q3 := kc_100000000; omega)) (by omega) hG hP hD hS hl
    · skip
      have hG := hG.trans (if_pos c_2366)
      have gc_2366 := ti_eq c_2366 rfl kc_0
      refine lv_aload_n hx hb dX7_pivot_11 rfl (lv_at hl 0 rfl) ?_
      refine lv_iconst (v := 1) hx hb dX7_pivot_12 (by decide) ?_
      have hFc := va_free (wc := [(oc7 oM x_2361 rM_tape iM_taped iM_size iM_at iM_end iM_token iM_whole iM_nameSize iM_fault iM_place x_2362 rM_letters iM_failed iM_hasCourt rM_r rM_fresh rM_told rM_read rM_st rM_undone rM_kept iM_undos iM_images rM_fresher iM_fresherSize iM_scale iM_night rM_heardRow rM_cutRow iM_breaths iM_cutMany iM_allBreaths rM_trial rM_words iM_fewestBreaths iM_orderMany iM_orderSum iM_leastOrder rM_often iM_setMany iM_someOf iM_allOf iM_allWeight iM_enoughWeight iM_worthSum iM_firstRest iM_leastDrawn)]) hD hS hA [4] rfl
      refine va_calli (va_runV (As := [.int 1]) (rest := []) ⟨hx, hb, hml, hown, hts⟩ (tX7_no l dC dI _ oM x_2361 rM_tape iM_taped iM_size iM_at iM_end iM_token iM_whole iM_nameSize iM_fault iM_place x_2362 rM_letters iM_failed iM_hasCourt rM_r rM_fresh rM_told rM_read rM_st rM_undone rM_kept iM_undos iM_images rM_fresher iM_fresherSize iM_scale iM_night rM_heardRow rM_cutRow iM_breaths iM_cutMany iM_allBreaths rM_trial rM_words iM_fewestBreaths iM_orderMany iM_orderSum iM_leastOrder rM_often iM_setMany iM_someOf iM_allOf iM_allWeight iM_enoughWeight iM_worthSum iM_firstRest iM_leastDrawn 1 (by first | omega | decide) (by first | omega | decide) (by first | omega | decide) (by first | omega | decide) (by first | omega | decide) (by first | omega | decide) (by first | omega | decide) (by first | omega | decide) (by first | omega | decide) (by first | omega | decide)) (cwV 1 hts (wd_V wd_396 wd_397 wd_398 wd_5 (wd_c wd_399)) rfl rfl rfl (by decide +kernel) ⟨Nat.le_of_ble_eq_true rfl, Nat.le_of_ble_eq_true rfl⟩) ⟨Pw.fb, va_recv hK hP (ci := 7) (q0 := 4) rfl rfl, fun U hU hW => Pw.to (hP.sub [4] rfl) (hD.sub [4] (by decide) rfl) (hK.sub [] rfl) hE hS hFc hU hW⟩ rfl rfl hl.1 rfl (lv_room (Nat.le_of_ble_eq_true rfl)) dX7_pivot_13 ⟨Nat.le_of_ble_eq_true rfl, Nat.le_of_ble_eq_true rfl⟩) hS (fun q _ h => hFc q h) hFc (fun r u t H locs ht hvm hw hB hz1 hk1 hS => ?_)
      have hru9 := hw.2
      have hw := hw.1
      obtain ⟨x_2386, e_x_2386_0, hB⟩ := hB
      obtain ⟨hP, hD, hK⟩ := Bw.go (ws' := [(arI rM_r kM_r 287 fM_r), (arI rM_told kM_told 90 fM_told), (arI rM_st kM_st 90 fM_st), (arI rM_trial kM_trial 90 fM_trial), (oc7 oM x_2361 rM_tape iM_taped iM_size iM_at iM_end iM_token iM_whole iM_nameSize iM_fault iM_place x_2386 rM_letters iM_failed iM_hasCourt rM_r rM_fresh rM_told rM_read rM_st rM_undone rM_kept iM_undos iM_images rM_fresher iM_fresherSize iM_scale iM_night rM_heardRow rM_cutRow iM_breaths iM_cutMany iM_allBreaths rM_trial rM_words iM_fewestBreaths iM_orderMany iM_orderSum iM_leastOrder rM_often iM_setMany iM_someOf iM_allOf iM_allWeight iM_enoughWeight iM_worthSum iM_firstRest iM_leastDrawn)]) (tys' := [(kM_r, .int), (kM_told, .int), (kM_st, .int), (kM_trial, .int)]) hB rfl ht hvm hP hD hK [4] [0, 1, 2, 3] rfl (by decide) (by decide) [0, 1, 2, 3] hk1 hFc rfl rfl rfl
      clear hz1 hk1 hvm ht hB
      have rg_x_2386 := fb_rng x_2386
      rw [← hru9] at e_x_2386_0
      obtain ⟨x_2387, rfl⟩ : ∃ z, z = r := ⟨_, rfl⟩
      have hG := hG.trans (un2_eq e_x_2386_0)
      have rg_x_2387 := fb_rng x_2387
      exact W.iret hx hb hr (fun t ht hW => ⟨⟨_, (cI x_2387), rfl, ⟨⟨trivial, trivial⟩, (cI_of x_2387)⟩, ⟨x_2361, x_2386, fM_trial, (cI_tup hG), Bw.to (hP.sub [4, 0, 1, 2, 3] rfl) (hD.sub [4, 0, 1, 2, 3] (by decide) rfl) (hK.sub [0, 1, 2, 3] rfl) ht hW⟩⟩, hS.F ht⟩) hS.2.2 dX7_pivot_16
set_option maxHeartbeats 4000000 in
set_option maxRecDepth 100000 in
theorem tX7_doesFit (l : Launch) (dC : Nat → ClassId) (dI : Nat → Nat → Nat) (sz : Nat) (oM : Nat) (iM_thrown : Int32) (rM_tape : Nat) (iM_taped : Int32) (iM_size : Int32) (iM_at : Int32) (iM_end : Int32) (iM_token : Int32) (iM_whole : Int32) (iM_nameSize : Int32) (iM_fault : Int32) (iM_place : Int32) (iM_trouble : Int32) (rM_letters : Nat) (iM_failed : Int32) (iM_hasCourt : Int32) (rM_r : Nat) (fM_r : Nat → Int32) (kM_r : ClassId) (rM_fresh : Nat) (rM_told : Nat) (fM_told : Nat → Int32) (kM_told : ClassId) (rM_read : Nat) (rM_st : Nat) (rM_undone : Nat) (rM_kept : Nat) (iM_undos : Int32) (iM_images : Int32) (rM_fresher : Nat) (iM_fresherSize : Int32) (iM_scale : Int32) (iM_night : Int32) (rM_heardRow : Nat) (rM_cutRow : Nat) (iM_breaths : Int32) (iM_cutMany : Int32) (iM_allBreaths : Int32) (rM_trial : Nat) (fM_trial : Nat → Int32) (kM_trial : ClassId) (rM_words : Nat) (iM_fewestBreaths : Int32) (iM_orderMany : Int32) (iM_orderSum : Int32) (iM_leastOrder : Int32) (rM_often : Nat) (iM_setMany : Int32) (iM_someOf : Int32) (iM_allOf : Int32) (iM_allWeight : Int64) (iM_enoughWeight : Int64) (iM_worthSum : Int64) (iM_firstRest : Int32) (iM_leastDrawn : Int32) (p0 : Int32) (b_iM_taped : 0 ≤ iM_taped.toInt ∧ iM_taped.toInt ≤ 900) (b_iM_size : 0 ≤ iM_size.toInt ∧ iM_size.toInt ≤ 900) (b_iM_end : 0 ≤ iM_end.toInt ∧ iM_end.toInt ≤ 900) (b_iM_failed : 0 ≤ iM_failed.toInt ∧ iM_failed.toInt ≤ 1) (b_iM_hasCourt : 0 ≤ iM_hasCourt.toInt ∧ iM_hasCourt.toInt ≤ 1) (b_iM_undos : 0 ≤ iM_undos.toInt ∧ iM_undos.toInt ≤ 16) (b_iM_images : 0 ≤ iM_images.toInt ∧ iM_images.toInt ≤ 3) (b_iM_scale : 1 ≤ iM_scale.toInt ∧ iM_scale.toInt ≤ 1296) (b_iM_breaths : 0 ≤ iM_breaths.toInt ∧ iM_breaths.toInt ≤ 399) (b_iM_cutMany : 0 ≤ iM_cutMany.toInt ∧ iM_cutMany.toInt ≤ 399) (r_R : ROk fM_r) (r_C : iM_hasCourt.toInt ≤ 0 ∨ (1 ≤ (fM_r 1).toInt ∧ 0 ≤ (fM_r 6).toInt ∧ (fM_r 6).toInt < (fM_r 1).toInt)) (r_told : RowOk fM_r fM_told) (hth : 0 ≤ (fM_r 6).toInt ∧ (fM_r 6).toInt < (fM_r 1).toInt) : Met l yX7_doesFit (Cond.code yX7_doesFit cX7_doesFit 2 (some .boolean) :: wG) ({ frames := 22, cells := 0, slots := 0, locals := 585 }) (va_Pc [.ref oM, .int p0] (Pw dC dI sz [(oc7 oM iM_thrown rM_tape iM_taped iM_size iM_at iM_end iM_token iM_whole iM_nameSize iM_fault iM_place iM_trouble rM_letters iM_failed iM_hasCourt rM_r rM_fresh rM_told rM_read rM_st rM_undone rM_kept iM_undos iM_images rM_fresher iM_fresherSize iM_scale iM_night rM_heardRow rM_cutRow iM_breaths iM_cutMany iM_allBreaths rM_trial rM_words iM_fewestBreaths iM_orderMany iM_orderSum iM_leastOrder rM_often iM_setMany iM_someOf iM_allOf iM_allWeight iM_enoughWeight iM_worthSum iM_firstRest iM_leastDrawn), (arI rM_r kM_r 287 fM_r), (arI rM_told kM_told 90 fM_told), (arI rM_trial kM_trial 90 fM_trial)] [(kM_r, .int), (kM_told, .int), (kM_trial, .int)])) (va_Qi (fun (r : Int32) (u : Nat) => ((r = 0 ∨ r = 1) ∧ True) ∧ r = Int32.ofNat u) (fun (u : Nat) (t : State) => ∃ (nfM_trial : Nat → Int32), (PX7_doesFit fM_r fM_told iM_scale iM_night fM_trial p0 = (Int32.ofNat u, nfM_trial)) ∧ Bw dC dI (va_A [(oc7 oM iM_thrown rM_tape iM_taped iM_size iM_at iM_end iM_token iM_whole iM_nameSize iM_fault iM_place iM_trouble rM_letters iM_failed iM_hasCourt rM_r rM_fresh rM_told rM_read rM_st rM_undone rM_kept iM_undos iM_images rM_fresher iM_fresherSize iM_scale iM_night rM_heardRow rM_cutRow iM_breaths iM_cutMany iM_allBreaths rM_trial rM_words iM_fewestBreaths iM_orderMany iM_orderSum iM_leastOrder rM_often iM_setMany iM_someOf iM_allOf iM_allWeight iM_enoughWeight iM_worthSum iM_firstRest iM_leastDrawn), (arI rM_r kM_r 287 fM_r), (arI rM_told kM_told 90 fM_told), (arI rM_trial kM_trial 90 fM_trial)] sz) [(oc7 oM iM_thrown rM_tape iM_taped iM_size iM_at iM_end iM_token iM_whole iM_nameSize iM_fault iM_place iM_trouble rM_letters iM_failed iM_hasCourt rM_r rM_fresh rM_told rM_read rM_st rM_undone rM_kept iM_undos iM_images rM_fresher iM_fresherSize iM_scale iM_night rM_heardRow rM_cutRow iM_breaths iM_cutMany iM_allBreaths rM_trial rM_words iM_fewestBreaths iM_orderMany iM_orderSum iM_leastOrder rM_often iM_setMany iM_someOf iM_allOf iM_allWeight iM_enoughWeight iM_worthSum iM_firstRest iM_leastDrawn), (arI rM_r kM_r 287 fM_r), (arI rM_told kM_told 90 fM_told), (arI rM_trial kM_trial 90 nfM_trial)] [(kM_r, .int), (kM_told, .int), (kM_trial, .int)] t) (va_A [(oc7 oM iM_thrown rM_tape iM_taped iM_size iM_at iM_end iM_token iM_whole iM_nameSize iM_fault iM_place iM_trouble rM_letters iM_failed iM_hasCourt rM_r rM_fresh rM_told rM_read rM_st rM_undone rM_kept iM_undos iM_images rM_fresher iM_fresherSize iM_scale iM_night rM_heardRow rM_cutRow iM_breaths iM_cutMany iM_allBreaths rM_trial rM_words iM_fewestBreaths iM_orderMany iM_orderSum iM_leastOrder rM_often iM_setMany iM_someOf iM_allOf iM_allWeight iM_enoughWeight iM_worthSum iM_firstRest iM_leastDrawn), (arI rM_r kM_r 287 fM_r), (arI rM_told kM_told 90 fM_told), (arI rM_trial kM_trial 90 fM_trial)] sz)) 0 0 (va_A [(oc7 oM iM_thrown rM_tape iM_taped iM_size iM_at iM_end iM_token iM_whole iM_nameSize iM_fault iM_place iM_trouble rM_letters iM_failed iM_hasCourt rM_r rM_fresh rM_told rM_read rM_st rM_undone rM_kept iM_undos iM_images rM_fresher iM_fresherSize iM_scale iM_night rM_heardRow rM_cutRow iM_breaths iM_cutMany iM_allBreaths rM_trial rM_words iM_fewestBreaths iM_orderMany iM_orderSum iM_leastOrder rM_often iM_setMany iM_someOf iM_allOf iM_allWeight iM_enoughWeight iM_worthSum iM_firstRest iM_leastDrawn), (arI rM_r kM_r 287 fM_r), (arI rM_told kM_told 90 fM_told), (arI rM_trial kM_trial 90 fM_trial)] sz) := by
  refine Met.ofW (cc := cX7_doesFit) (maxL := 2) (ret := (some .boolean)) (by decide) rfl ?_
  intro p e s m args below meth c s₁ B hml hv
  obtain ⟨rfl, hsz, hP, hK, hD0, hE⟩ := hv
  have hx := B.exec
  have hb := B.bytes
  have hr := B.returns
  have hts : ∀ w ∈ wG, w.before ([.ref oM, .int p0] : List Value).toArray s = true := fun w h => atoms_spec (ws := Cond.code yX7_doesFit cX7_doesFit 2 (some .boolean) :: wG) B.pre w (List.mem_cons_of_mem _ h)
  have hown : s.vm.findClass RX7 = some m.cls := findClass_of_methodNamed B.named
  have hlocks := B.notSynchronized
  subst hsz
  have hD := hD0.self (sz := s.heap.size)
  generalize hAe : va_A [(oc7 oM iM_thrown rM_tape iM_taped iM_size iM_at iM_end iM_token iM_whole iM_nameSize iM_fault iM_place iM_trouble rM_letters iM_failed iM_hasCourt rM_r rM_fresh rM_told rM_read rM_st rM_undone rM_kept iM_undos iM_images rM_fresher iM_fresherSize iM_scale iM_night rM_heardRow rM_cutRow iM_breaths iM_cutMany iM_allBreaths rM_trial rM_words iM_fewestBreaths iM_orderMany iM_orderSum iM_leastOrder rM_often iM_setMany iM_someOf iM_allOf iM_allWeight iM_enoughWeight iM_worthSum iM_firstRest iM_leastDrawn), (arI rM_r kM_r 287 fM_r), (arI rM_told kM_told 90 fM_told), (arI rM_trial kM_trial 90 fM_trial)] s.heap.size = A at hD hE ⊢
  have hA : ∀ q : Nat, s.heap.size ≤ q → A q := fun q h => by rw [← hAe]; exact Or.inr h
  have hS : va_S A s.heap s.heap [] := va_S.rf
  have hl := lv_entry ([.ref oM, .int p0]) (n := 2) (Nat.le_of_ble_eq_true rfl)
  rw [lg_entry_eq]
  generalize (lg_sl ([.ref oM, .int p0]) ++ List.replicate (2 - (lg_sl ([.ref oM, .int p0])).length) Slot.unset).toArray = ls at hl ⊢
  have hl : lv_has ls 2 [(0, .ref oM), (1, .int p0)] := hl
  have hG := PX7_doesFit_eq fM_r fM_told iM_scale iM_night fM_trial p0
  have s_slips := r_R.slips
  have s_nodes := r_R.nodes
  have s_uns := r_R.uns
  refine lv_aload_n hx hb dX7_doesFit_0 rfl (lv_at hl 0 rfl) ?_
  refine lv_aload_n hx hb dX7_doesFit_1 rfl (lv_at hl 0 rfl) ?_
  refine va_get (D := (dC, dI)) (ci := 7) (v := .ref rM_told) (C := RX7) (T := TX7) (N := 48) hx hb hts inX7 hown hK hP 0 rfl rfl 17 (by decide) (hts _ wd_157) (fun _ h9 => h9) rfl dX7_doesFit_2 ?_
  refine lv_iload_n hx hb dX7_doesFit_5 rfl (lv_at hl 1 rfl) ?_
  have hFc := va_free (wc := [(oc7 oM iM_thrown rM_tape iM_taped iM_size iM_at iM_end iM_token iM_whole iM_nameSize iM_fault iM_place iM_trouble rM_letters iM_failed iM_hasCourt rM_r rM_fresh rM_told rM_read rM_st rM_undone rM_kept iM_undos iM_images rM_fresher iM_fresherSize iM_scale iM_night rM_heardRow rM_cutRow iM_breaths iM_cutMany iM_allBreaths rM_trial rM_words iM_fewestBreaths iM_orderMany iM_orderSum iM_leastOrder rM_often iM_setMany iM_someOf iM_allOf iM_allWeight iM_enoughWeight iM_worthSum iM_firstRest iM_leastDrawn), (arI rM_r kM_r 287 fM_r), (arI rM_trial kM_trial 90 fM_trial), (arI rM_told kM_told 90 fM_told)]) hD hS hA [0, 1, 3, 2] rfl
  refine va_callv (va_runV (As := [.ref rM_told, .int p0]) (rest := []) ⟨hx, hb, hml, hown, hts⟩ (tX7_slipBy l dC dI _ oM iM_thrown rM_tape iM_taped iM_size iM_at iM_end iM_token iM_whole iM_nameSize iM_fault iM_place iM_trouble rM_letters iM_failed iM_hasCourt rM_r fM_r kM_r rM_fresh rM_told rM_read rM_st rM_undone rM_kept iM_undos iM_images rM_fresher iM_fresherSize iM_scale iM_night rM_heardRow rM_cutRow iM_breaths iM_cutMany iM_allBreaths rM_trial fM_trial kM_trial rM_words iM_fewestBreaths iM_orderMany iM_orderSum iM_leastOrder rM_often iM_setMany iM_someOf iM_allOf iM_allWeight iM_enoughWeight iM_worthSum iM_firstRest iM_leastDrawn rM_told fM_told kM_told p0 (by first | omega | decide) (by first | omega | decide) (by first | omega | decide) (by first | omega | decide) (by first | omega | decide) (by first | omega | decide) (by first | omega | decide) (by first | omega | decide) (by first | omega | decide) (by first | omega | decide) (by assumption) (by assumption) (by assumption)) (cwV 2 hts (wd_V wd_1192 wd_1193 wd_1194 wd_5 (wd_c wd_1195)) rfl rfl rfl (by decide +kernel) ⟨Nat.le_of_ble_eq_true rfl, Nat.le_of_ble_eq_true rfl⟩) ⟨Pw.fb, va_recv hK hP (ci := 7) (q0 := 0) rfl rfl, fun U hU hW => Pw.to (hP.sub [0, 1, 3, 2] rfl) (hD.sub [0, 1, 3, 2] (by decide) rfl) (hK.sub [0, 2, 1] rfl) hE hS hFc hU hW⟩ rfl rfl hl.1 rfl (lv_room (Nat.le_of_ble_eq_true rfl)) dX7_doesFit_6 ⟨Nat.le_of_ble_eq_true rfl, Nat.le_of_ble_eq_true rfl⟩) hS (fun q _ h => hFc q h) hFc (fun u t H locs ht hvm hw hB hz1 hk1 hS => ?_)
  obtain ⟨f_2396, e_f_2396_0, e_f_2396_1, hB⟩ := hB
  obtain ⟨hP, hD, hK⟩ := Bw.go (ws' := [(oc7 oM iM_thrown rM_tape iM_taped iM_size iM_at iM_end iM_token iM_whole iM_nameSize iM_fault iM_place iM_trouble rM_letters iM_failed iM_hasCourt rM_r rM_fresh rM_told rM_read rM_st rM_undone rM_kept iM_undos iM_images rM_fresher iM_fresherSize iM_scale iM_night rM_heardRow rM_cutRow iM_breaths iM_cutMany iM_allBreaths rM_trial rM_words iM_fewestBreaths iM_orderMany iM_orderSum iM_leastOrder rM_often iM_setMany iM_someOf iM_allOf iM_allWeight iM_enoughWeight iM_worthSum iM_firstRest iM_leastDrawn), (arI rM_r kM_r 287 fM_r), (arI rM_trial kM_trial 90 f_2396), (arI rM_told kM_told 90 fM_told)]) (tys' := [(kM_r, .int), (kM_trial, .int), (kM_told, .int)]) hB rfl ht hvm hP hD hK [0, 1, 3, 2] [] rfl (by decide) (by decide) [] hk1 hFc rfl rfl rfl
  clear hz1 hk1 hvm ht hB
  have hG := hG.trans (lt_eq e_f_2396_1.symm)
  refine lv_aload_n hx hb dX7_doesFit_9 rfl (lv_at hl 0 rfl) ?_
  refine va_get (D := (dC, dI)) (ci := 7) (v := .ref rM_r) (C := RX7) (T := TX7) (N := 48) hx hb hts inX7 hown hK hP 0 rfl rfl 15 (by decide) (hts _ wd_155) (fun _ h9 => h9) rfl dX7_doesFit_10 ?_
  refine lv_iconst (v := 4) hx hb dX7_doesFit_13 (by decide) ?_
  refine va_iald hx hb hK hP 1 0 rfl rfl (by unfold vp_in; decide) dX7_doesFit_14 ?_
  refine lv_topi (fun x_2397 ex_2397 => ?_)
  have hG := hG.trans (lt_eq ex_2397)
  have cx_2397 : (fM_r 4).toInt = x_2397.toInt := congrArg Int32.toInt (show fM_r 4 = x_2397 from ex_2397.symm)
  refine lv_if_eq (tgt := 42) hx hb dX7_doesFit_15 (by decide) (fun c_2398 => ?_) (fun c_2398 => ?_)
  · skip
    have hG := hG.trans (if_pos c_2398)
    have gc_2398 := ti_eq c_2398 rfl kc_0
    refine lv_iconst (v := 1) hx hb dX7_doesFit_42 (by decide) ?_
    refine lv_goto (tgt := 47) hx hb dX7_doesFit_43 (by decide) ?_
    exact W.zret (v := 1) hx hb hr rfl (fun t ht hW => ⟨⟨_, (cI 1), rfl, ⟨⟨Or.inr rfl, trivial⟩, (cI_of 1)⟩, ⟨f_2396, (cI_tup hG), Bw.to (hP.sub [0, 1, 3, 2] rfl) (hD.sub [0, 1, 3, 2] (by decide) rfl) (hK.sub [0, 2, 1] rfl) ht hW⟩⟩, hS.F ht⟩) hS.2.2 dX7_doesFit_47
  · skip
    have hG := hG.trans (if_neg c_2398)
    have gc_2398 := ti_ne c_2398 rfl kc_0
    refine lv_aload_n hx hb dX7_doesFit_18 rfl (lv_at hl 0 rfl) ?_
    refine lv_aload_n hx hb dX7_doesFit_19 rfl (lv_at hl 0 rfl) ?_
    refine va_get (D := (dC, dI)) (ci := 7) (v := .ref rM_trial) (C := RX7) (T := TX7) (N := 48) hx hb hts inX7 hown hK hP 0 rfl rfl 33 (by decide) (hts _ wd_167) (fun _ h9 => h9) rfl dX7_doesFit_20 ?_
    have hFc := va_free (wc := [(oc7 oM iM_thrown rM_tape iM_taped iM_size iM_at iM_end iM_token iM_whole iM_nameSize iM_fault iM_place iM_trouble rM_letters iM_failed iM_hasCourt rM_r rM_fresh rM_told rM_read rM_st rM_undone rM_kept iM_undos iM_images rM_fresher iM_fresherSize iM_scale iM_night rM_heardRow rM_cutRow iM_breaths iM_cutMany iM_allBreaths rM_trial rM_words iM_fewestBreaths iM_orderMany iM_orderSum iM_leastOrder rM_often iM_setMany iM_someOf iM_allOf iM_allWeight iM_enoughWeight iM_worthSum iM_firstRest iM_leastDrawn), (arI rM_r kM_r 287 fM_r), (arI rM_told kM_told 90 fM_told), (arI rM_trial kM_trial 90 f_2396)]) hD hS hA [0, 1, 3, 2] rfl
    refine va_calli (va_runV (As := [.ref rM_trial]) (rest := []) ⟨hx, hb, hml, hown, hts⟩ (tX7_throneBy l dC dI _ oM iM_thrown rM_tape iM_taped iM_size iM_at iM_end iM_token iM_whole iM_nameSize iM_fault iM_place iM_trouble rM_letters iM_failed iM_hasCourt rM_r fM_r kM_r rM_fresh rM_told fM_told kM_told rM_read rM_st rM_undone rM_kept iM_undos iM_images rM_fresher iM_fresherSize iM_scale iM_night rM_heardRow rM_cutRow iM_breaths iM_cutMany iM_allBreaths rM_trial rM_words iM_fewestBreaths iM_orderMany iM_orderSum iM_leastOrder rM_often iM_setMany iM_someOf iM_allOf iM_allWeight iM_enoughWeight iM_worthSum iM_firstRest iM_leastDrawn rM_trial f_2396 kM_trial (by first | omega | decide) (by first | omega | decide) (by first | omega | decide) (by first | omega | decide) (by first | omega | decide) (by first | omega | decide) (by first | omega | decide) (by first | omega | decide) (by first | omega | decide) (by first | omega | decide) (by assumption) (by assumption) (by assumption) (by assumption) (by first | omega | decide | assumption | (have q0 := kc_0; have q1 := kc_1; omega) | (intro h; exact absurd h (by decide)))) (cwV 1 hts (wd_V wd_979 wd_980 wd_981 wd_5 (wd_c wd_982)) rfl rfl rfl (by decide +kernel) ⟨Nat.le_of_ble_eq_true rfl, Nat.le_of_ble_eq_true rfl⟩) ⟨Pw.fb, va_recv hK hP (ci := 7) (q0 := 0) rfl rfl, fun U hU hW => Pw.to (hP.sub [0, 1, 3, 2] rfl) (hD.sub [0, 1, 3, 2] (by decide) rfl) (hK.sub [0, 2, 1] rfl) hE hS hFc hU hW⟩ rfl rfl hl.1 rfl (lv_room (Nat.le_of_ble_eq_true rfl)) dX7_doesFit_23 ⟨Nat.le_of_ble_eq_true rfl, Nat.le_of_ble_eq_true rfl⟩) hS (fun q _ h => hFc q h) hFc (fun r u t H locs ht hvm hw hB hz1 hk1 hS => ?_)
    have hru9 := hw.2
    have hw := hw.1
    obtain ⟨hP, hD, hK⟩ := Bw.go (ws' := [(oc7 oM iM_thrown rM_tape iM_taped iM_size iM_at iM_end iM_token iM_whole iM_nameSize iM_fault iM_place iM_trouble rM_letters iM_failed iM_hasCourt rM_r rM_fresh rM_told rM_read rM_st rM_undone rM_kept iM_undos iM_images rM_fresher iM_fresherSize iM_scale iM_night rM_heardRow rM_cutRow iM_breaths iM_cutMany iM_allBreaths rM_trial rM_words iM_fewestBreaths iM_orderMany iM_orderSum iM_leastOrder rM_often iM_setMany iM_someOf iM_allOf iM_allWeight iM_enoughWeight iM_worthSum iM_firstRest iM_leastDrawn), (arI rM_r kM_r 287 fM_r), (arI rM_told kM_told 90 fM_told), (arI rM_trial kM_trial 90 f_2396)]) (tys' := [(kM_r, .int), (kM_told, .int), (kM_trial, .int)]) hB rfl ht hvm hP hD hK [0, 1, 3, 2] [] rfl (by decide) (by decide) [] hk1 hFc rfl rfl rfl
    clear hz1 hk1 hvm ht hB
    obtain ⟨x_2399, rfl⟩ : ∃ z, z = r := ⟨_, rfl⟩
    have hG := hG.trans (lt_eq hru9.symm)
    refine lv_aload_n hx hb dX7_doesFit_26 rfl (lv_at hl 0 rfl) ?_
    refine va_get (D := (dC, dI)) (ci := 7) (v := .int iM_scale) (C := RX7) (T := TX7) (N := 48) hx hb hts inX7 hown hK hP 0 rfl rfl 26 (by decide) (hts _ wd_163) (fun _ h9 => h9) rfl dX7_doesFit_27 ?_
    refine lv_idiv hx hb dX7_doesFit_30 (ti_n0 rfl (by omega)) ?_
    refine lv_topi (fun x_2400 ex_2400 => ?_)
    have hG := hG.trans (lt_eq ex_2400)
    refine lv_aload_n hx hb dX7_doesFit_31 rfl (lv_at hl 0 rfl) ?_
    refine va_get (D := (dC, dI)) (ci := 7) (v := .ref rM_r) (C := RX7) (T := TX7) (N := 48) hx hb hts inX7 hown hK hP 0 rfl rfl 15 (by decide) (hts _ wd_155) (fun _ h9 => h9) rfl dX7_doesFit_32 ?_
    refine lv_iconst (v := 4) hx hb dX7_doesFit_35 (by decide) ?_
    refine va_iald hx hb hK hP 1 0 rfl rfl (by unfold vp_in; decide) dX7_doesFit_36 ?_
    refine lv_topi (fun x_2401 ex_2401 => ?_)
    have hG := hG.trans (lt_eq ex_2401)
    have cx_2401 : (fM_r 4).toInt = x_2401.toInt := congrArg Int32.toInt (show fM_r 4 = x_2401 from ex_2401.symm)
    refine lv_iconst (v := 1) hx hb dX7_doesFit_37 (by decide) ?_
    refine lv_isub hx hb dX7_doesFit_38 ?_
    refine lv_topi (fun x_2402 ex_2402 => ?_)
    have hG := hG.trans (lt_eq ex_2402)
    refine lv_icmp_ne (tgt := 46) hx hb dX7_doesFit_39 (by decide) (fun c_2403 => ?_) (fun c_2403 => ?_)
    · skip
      have hG := hG.trans (if_neg c_2403)
      have gc_2403 := ti_ne c_2403 rfl rfl
      refine lv_iconst (v := 0) hx hb dX7_doesFit_46 (by decide) ?_
      exact W.zret (v := 0) hx hb hr rfl (fun t ht hW => ⟨⟨_, (cI 0), rfl, ⟨⟨Or.inl rfl, trivial⟩, (cI_of 0)⟩, ⟨f_2396, (cI_tup hG), Bw.to (hP.sub [0, 1, 2, 3] rfl) (hD.sub [0, 1, 2, 3] (by decide) rfl) (hK.sub [0, 1, 2] rfl) ht hW⟩⟩, hS.F ht⟩) hS.2.2 dX7_doesFit_47
    · skip
      have hG := hG.trans (if_pos c_2403)
      have gc_2403 := ti_eq c_2403 rfl rfl
      refine lv_iconst (v := 1) hx hb dX7_doesFit_42 (by decide) ?_
      refine lv_goto (tgt := 47) hx hb dX7_doesFit_43 (by decide) ?_
      exact W.zret (v := 1) hx hb hr rfl (fun t ht hW => ⟨⟨_, (cI 1), rfl, ⟨⟨Or.inr rfl, trivial⟩, (cI_of 1)⟩, ⟨f_2396, (cI_tup hG), Bw.to (hP.sub [0, 1, 2, 3] rfl) (hD.sub [0, 1, 2, 3] (by decide) rfl) (hK.sub [0, 1, 2] rfl) ht hW⟩⟩, hS.F ht⟩) hS.2.2 dX7_doesFit_47
set_option maxHeartbeats 4000000 in
set_option maxRecDepth 100000 in
theorem tX7_seekSets (l : Launch) (dC : Nat → ClassId) (dI : Nat → Nat → Nat) (sz : Nat) (oM : Nat) (iM_thrown : Int32) (rM_tape : Nat) (iM_taped : Int32) (iM_size : Int32) (iM_at : Int32) (iM_end : Int32) (iM_token : Int32) (iM_whole : Int32) (iM_nameSize : Int32) (iM_fault : Int32) (iM_place : Int32) (iM_trouble : Int32) (rM_letters : Nat) (iM_failed : Int32) (iM_hasCourt : Int32) (rM_r : Nat) (fM_r : Nat → Int32) (kM_r : ClassId) (rM_fresh : Nat) (rM_told : Nat) (fM_told : Nat → Int32) (kM_told : ClassId) (rM_read : Nat) (rM_st : Nat) (rM_undone : Nat) (rM_kept : Nat) (iM_undos : Int32) (iM_images : Int32) (rM_fresher : Nat) (iM_fresherSize : Int32) (iM_scale : Int32) (iM_night : Int32) (rM_heardRow : Nat) (rM_cutRow : Nat) (iM_breaths : Int32) (iM_cutMany : Int32) (iM_allBreaths : Int32) (rM_trial : Nat) (fM_trial : Nat → Int32) (kM_trial : ClassId) (rM_words : Nat) (iM_fewestBreaths : Int32) (iM_orderMany : Int32) (iM_orderSum : Int32) (iM_leastOrder : Int32) (rM_often : Nat) (fM_often : Nat → Int32) (kM_often : ClassId) (iM_setMany : Int32) (iM_someOf : Int32) (iM_allOf : Int32) (iM_allWeight : Int64) (iM_enoughWeight : Int64) (iM_worthSum : Int64) (iM_firstRest : Int32) (iM_leastDrawn : Int32) (p0 : Int32) (b_iM_taped : 0 ≤ iM_taped.toInt ∧ iM_taped.toInt ≤ 900) (b_iM_size : 0 ≤ iM_size.toInt ∧ iM_size.toInt ≤ 900) (b_iM_end : 0 ≤ iM_end.toInt ∧ iM_end.toInt ≤ 900) (b_iM_failed : 0 ≤ iM_failed.toInt ∧ iM_failed.toInt ≤ 1) (b_iM_hasCourt : 0 ≤ iM_hasCourt.toInt ∧ iM_hasCourt.toInt ≤ 1) (b_iM_undos : 0 ≤ iM_undos.toInt ∧ iM_undos.toInt ≤ 16) (b_iM_images : 0 ≤ iM_images.toInt ∧ iM_images.toInt ≤ 3) (b_iM_scale : 1 ≤ iM_scale.toInt ∧ iM_scale.toInt ≤ 1296) (b_iM_breaths : 0 ≤ iM_breaths.toInt ∧ iM_breaths.toInt ≤ 399) (b_iM_cutMany : 0 ≤ iM_cutMany.toInt ∧ iM_cutMany.toInt ≤ 399) (r_R : ROk fM_r) (r_C : iM_hasCourt.toInt ≤ 0 ∨ (1 ≤ (fM_r 1).toInt ∧ 0 ≤ (fM_r 6).toInt ∧ (fM_r 6).toInt < (fM_r 1).toInt)) (r_told : RowOk fM_r fM_told) (hth : 0 ≤ (fM_r 6).toInt ∧ (fM_r 6).toInt < (fM_r 1).toInt) : Met l yX7_seekSets (Cond.code yX7_seekSets cX7_seekSets 5 (some .int) :: wG) ({ frames := 23, cells := 0, slots := 0, locals := 606 }) (va_Pc [.ref oM, .int p0] (Pw dC dI sz [(oc7 oM iM_thrown rM_tape iM_taped iM_size iM_at iM_end iM_token iM_whole iM_nameSize iM_fault iM_place iM_trouble rM_letters iM_failed iM_hasCourt rM_r rM_fresh rM_told rM_read rM_st rM_undone rM_kept iM_undos iM_images rM_fresher iM_fresherSize iM_scale iM_night rM_heardRow rM_cutRow iM_breaths iM_cutMany iM_allBreaths rM_trial rM_words iM_fewestBreaths iM_orderMany iM_orderSum iM_leastOrder rM_often iM_setMany iM_someOf iM_allOf iM_allWeight iM_enoughWeight iM_worthSum iM_firstRest iM_leastDrawn), (arI rM_r kM_r 287 fM_r), (arI rM_told kM_told 90 fM_told), (arI rM_trial kM_trial 90 fM_trial), (arI rM_often kM_often 4 fM_often)] [(kM_r, .int), (kM_told, .int), (kM_trial, .int), (kM_often, .int)])) (va_Qi (fun (r : Int32) (u : Nat) => (True ∧ True) ∧ r = Int32.ofNat u) (fun (u : Nat) (t : State) => ∃ (niM_setMany : Int32) (niM_someOf : Int32) (niM_allOf : Int32) (nfM_trial : Nat → Int32) (nfM_often : Nat → Int32), (PX7_seekSets fM_r fM_told iM_scale iM_night fM_trial fM_often p0 = (Int32.ofNat u, niM_setMany, niM_someOf, niM_allOf, nfM_trial, nfM_often)) ∧ Bw dC dI (va_A [(oc7 oM iM_thrown rM_tape iM_taped iM_size iM_at iM_end iM_token iM_whole iM_nameSize iM_fault iM_place iM_trouble rM_letters iM_failed iM_hasCourt rM_r rM_fresh rM_told rM_read rM_st rM_undone rM_kept iM_undos iM_images rM_fresher iM_fresherSize iM_scale iM_night rM_heardRow rM_cutRow iM_breaths iM_cutMany iM_allBreaths rM_trial rM_words iM_fewestBreaths iM_orderMany iM_orderSum iM_leastOrder rM_often iM_setMany iM_someOf iM_allOf iM_allWeight iM_enoughWeight iM_worthSum iM_firstRest iM_leastDrawn), (arI rM_r kM_r 287 fM_r), (arI rM_told kM_told 90 fM_told), (arI rM_trial kM_trial 90 fM_trial), (arI rM_often kM_often 4 fM_often)] sz) [(oc7 oM iM_thrown rM_tape iM_taped iM_size iM_at iM_end iM_token iM_whole iM_nameSize iM_fault iM_place iM_trouble rM_letters iM_failed iM_hasCourt rM_r rM_fresh rM_told rM_read rM_st rM_undone rM_kept iM_undos iM_images rM_fresher iM_fresherSize iM_scale iM_night rM_heardRow rM_cutRow iM_breaths iM_cutMany iM_allBreaths rM_trial rM_words iM_fewestBreaths iM_orderMany iM_orderSum iM_leastOrder rM_often niM_setMany niM_someOf niM_allOf iM_allWeight iM_enoughWeight iM_worthSum iM_firstRest iM_leastDrawn), (arI rM_r kM_r 287 fM_r), (arI rM_told kM_told 90 fM_told), (arI rM_trial kM_trial 90 nfM_trial), (arI rM_often kM_often 4 nfM_often)] [(kM_r, .int), (kM_told, .int), (kM_trial, .int), (kM_often, .int)] t) (va_A [(oc7 oM iM_thrown rM_tape iM_taped iM_size iM_at iM_end iM_token iM_whole iM_nameSize iM_fault iM_place iM_trouble rM_letters iM_failed iM_hasCourt rM_r rM_fresh rM_told rM_read rM_st rM_undone rM_kept iM_undos iM_images rM_fresher iM_fresherSize iM_scale iM_night rM_heardRow rM_cutRow iM_breaths iM_cutMany iM_allBreaths rM_trial rM_words iM_fewestBreaths iM_orderMany iM_orderSum iM_leastOrder rM_often iM_setMany iM_someOf iM_allOf iM_allWeight iM_enoughWeight iM_worthSum iM_firstRest iM_leastDrawn), (arI rM_r kM_r 287 fM_r), (arI rM_told kM_told 90 fM_told), (arI rM_trial kM_trial 90 fM_trial), (arI rM_often kM_often 4 fM_often)] sz)) 0 0 (va_A [(oc7 oM iM_thrown rM_tape iM_taped iM_size iM_at iM_end iM_token iM_whole iM_nameSize iM_fault iM_place iM_trouble rM_letters iM_failed iM_hasCourt rM_r rM_fresh rM_told rM_read rM_st rM_undone rM_kept iM_undos iM_images rM_fresher iM_fresherSize iM_scale iM_night rM_heardRow rM_cutRow iM_breaths iM_cutMany iM_allBreaths rM_trial rM_words iM_fewestBreaths iM_orderMany iM_orderSum iM_leastOrder rM_often iM_setMany iM_someOf iM_allOf iM_allWeight iM_enoughWeight iM_worthSum iM_firstRest iM_leastDrawn), (arI rM_r kM_r 287 fM_r), (arI rM_told kM_told 90 fM_told), (arI rM_trial kM_trial 90 fM_trial), (arI rM_often kM_often 4 fM_often)] sz) := by
  refine Met.ofW (cc := cX7_seekSets) (maxL := 5) (ret := (some .int)) (by decide) rfl ?_
  intro p e s m args below meth c s₁ B hml hv
  obtain ⟨rfl, hsz, hP, hK, hD0, hE⟩ := hv
  have hx := B.exec
  have hb := B.bytes
  have hr := B.returns
  have hts : ∀ w ∈ wG, w.before ([.ref oM, .int p0] : List Value).toArray s = true := fun w h => atoms_spec (ws := Cond.code yX7_seekSets cX7_seekSets 5 (some .int) :: wG) B.pre w (List.mem_cons_of_mem _ h)
  have hown : s.vm.findClass RX7 = some m.cls := findClass_of_methodNamed B.named
  have hlocks := B.notSynchronized
  subst hsz
  have hD := hD0.self (sz := s.heap.size)
  generalize hAe : va_A [(oc7 oM iM_thrown rM_tape iM_taped iM_size iM_at iM_end iM_token iM_whole iM_nameSize iM_fault iM_place iM_trouble rM_letters iM_failed iM_hasCourt rM_r rM_fresh rM_told rM_read rM_st rM_undone rM_kept iM_undos iM_images rM_fresher iM_fresherSize iM_scale iM_night rM_heardRow rM_cutRow iM_breaths iM_cutMany iM_allBreaths rM_trial rM_words iM_fewestBreaths iM_orderMany iM_orderSum iM_leastOrder rM_often iM_setMany iM_someOf iM_allOf iM_allWeight iM_enoughWeight iM_worthSum iM_firstRest iM_leastDrawn), (arI rM_r kM_r 287 fM_r), (arI rM_told kM_told 90 fM_told), (arI rM_trial kM_trial 90 fM_trial), (arI rM_often kM_often 4 fM_often)] s.heap.size = A at hD hE ⊢
  have hA : ∀ q : Nat, s.heap.size ≤ q → A q := fun q h => by rw [← hAe]; exact Or.inr h
  have hS : va_S A s.heap s.heap [] := va_S.rf
  have hl := lv_entry ([.ref oM, .int p0]) (n := 5) (Nat.le_of_ble_eq_true rfl)
  rw [lg_entry_eq]
  generalize (lg_sl ([.ref oM, .int p0]) ++ List.replicate (5 - (lg_sl ([.ref oM, .int p0])).length) Slot.unset).toArray = ls at hl ⊢
  have hl : lv_has ls 5 [(0, .ref oM), (1, .int p0)] := hl
  have hG := PX7_seekSets_eq fM_r fM_told iM_scale iM_night fM_trial fM_often p0
  have rg_p0 := fb_rng p0
  have s_slips := r_R.slips
  have s_nodes := r_R.nodes
  have s_uns := r_R.uns
  refine lv_iconst (v := (-1)) hx hb dX7_seekSets_0 (by decide) ?_
  refine lv_istore_n (lv' := [(2, .int (-1)), (0, .ref oM), (1, .int p0)]) hx hb dX7_seekSets_1 rfl hl (by decide) rfl (fun ls hl => ?_)
  refine lv_aload_n hx hb dX7_seekSets_2 rfl (lv_at hl 1 rfl) ?_
  refine lv_iconst (v := 0) hx hb dX7_seekSets_3 (by decide) ?_
  refine va_put (D := (dC, dI)) (ci := 7) (v := .int 0) (ty := .int) (C := RX7) (T := TX7) (N := 48) hx hb hts inX7 tyX7 tyX7_ok nmX7 hown hK hP hD hS 0 rfl rfl 40 (by decide) (hts _ wd_1181) (fun _ h9 => h9) rfl (by decide +kernel) rfl rfl (Nat.le_of_ble_eq_true rfl) dX7_seekSets_4 (fun H locs hP hD hS => ?_)
  obtain ⟨hP, hD⟩ := wl2 (ws' := [(oc7 oM iM_thrown rM_tape iM_taped iM_size iM_at iM_end iM_token iM_whole iM_nameSize iM_fault iM_place iM_trouble rM_letters iM_failed iM_hasCourt rM_r rM_fresh rM_told rM_read rM_st rM_undone rM_kept iM_undos iM_images rM_fresher iM_fresherSize iM_scale iM_night rM_heardRow rM_cutRow iM_breaths iM_cutMany iM_allBreaths rM_trial rM_words iM_fewestBreaths iM_orderMany iM_orderSum iM_leastOrder rM_often 0 iM_someOf iM_allOf iM_allWeight iM_enoughWeight iM_worthSum iM_firstRest iM_leastDrawn), (arI rM_r kM_r 287 fM_r), (arI rM_told kM_told 90 fM_told), (arI rM_trial kM_trial 90 fM_trial), (arI rM_often kM_often 4 fM_often)]) hP hD rfl
  refine lv_aload_n hx hb dX7_seekSets_7 rfl (lv_at hl 1 rfl) ?_
  refine lv_iconst (v := 0) hx hb dX7_seekSets_8 (by decide) ?_
  refine va_put (D := (dC, dI)) (ci := 7) (v := .int 0) (ty := .int) (C := RX7) (T := TX7) (N := 48) hx hb hts inX7 tyX7 tyX7_ok nmX7 hown hK hP hD hS 0 rfl rfl 41 (by decide) (hts _ wd_1186) (fun _ h9 => h9) rfl (by decide +kernel) rfl rfl (Nat.le_of_ble_eq_true rfl) dX7_seekSets_9 (fun H locs hP hD hS => ?_)
  obtain ⟨hP, hD⟩ := wl2 (ws' := [(oc7 oM iM_thrown rM_tape iM_taped iM_size iM_at iM_end iM_token iM_whole iM_nameSize iM_fault iM_place iM_trouble rM_letters iM_failed iM_hasCourt rM_r rM_fresh rM_told rM_read rM_st rM_undone rM_kept iM_undos iM_images rM_fresher iM_fresherSize iM_scale iM_night rM_heardRow rM_cutRow iM_breaths iM_cutMany iM_allBreaths rM_trial rM_words iM_fewestBreaths iM_orderMany iM_orderSum iM_leastOrder rM_often 0 0 iM_allOf iM_allWeight iM_enoughWeight iM_worthSum iM_firstRest iM_leastDrawn), (arI rM_r kM_r 287 fM_r), (arI rM_told kM_told 90 fM_told), (arI rM_trial kM_trial 90 fM_trial), (arI rM_often kM_often 4 fM_often)]) hP hD rfl
  refine lv_aload_n hx hb dX7_seekSets_12 rfl (lv_at hl 1 rfl) ?_
  refine lv_iconst (v := 1) hx hb dX7_seekSets_13 (by decide) ?_
  refine lv_aload_n hx hb dX7_seekSets_14 rfl (lv_at hl 1 rfl) ?_
  refine va_get (D := (dC, dI)) (ci := 7) (v := .ref rM_r) (C := RX7) (T := TX7) (N := 48) hx hb hts inX7 hown hK hP 0 rfl rfl 15 (by decide) (hts _ wd_155) (fun _ h9 => h9) rfl dX7_seekSets_15 ?_
  refine lv_iconst (v := 3) hx hb dX7_seekSets_18 (by decide) ?_
  refine va_iald hx hb hK hP 1 0 rfl rfl (by unfold vp_in; decide) dX7_seekSets_19 ?_
  refine lv_topi (fun x_2647 ex_2647 => ?_)
  have hG := hG.trans (lt_eq ex_2647)
  have rg_x_2647 := fb_rng x_2647
  have cx_2647 : (fM_r 3).toInt = x_2647.toInt := congrArg Int32.toInt (show fM_r 3 = x_2647 from ex_2647.symm)
  have sx_2647 := r_R.uns
  refine lv_ishl hx hb dX7_seekSets_20 ?_
  refine lv_topi (fun x_2648 ex_2648 => ?_)
  have hG := hG.trans (lt_eq ex_2648)
  have rg_x_2648 := fb_rng x_2648
  have qx_2648 := ti_shl ex_2648 rfl (by omega) (by omega)
  refine lv_iconst (v := 1) hx hb dX7_seekSets_21 (by decide) ?_
  refine lv_isub hx hb dX7_seekSets_22 ?_
  refine lv_topi (fun x_2649 ex_2649 => ?_)
  have hG := hG.trans (lt_eq ex_2649)
  have vx_2649 : x_2649.toInt = x_2648.toInt + (-1) := by have q := ti_sub ex_2649 rfl kc_1 (by omega) (by omega); omega
  refine va_put (D := (dC, dI)) (ci := 7) (v := .int x_2649) (ty := .int) (C := RX7) (T := TX7) (N := 48) hx hb hts inX7 tyX7 tyX7_ok nmX7 hown hK hP hD hS 0 rfl rfl 42 (by decide) (hts _ wd_1187) (fun _ h9 => h9) rfl (by decide +kernel) rfl rfl (Nat.le_of_ble_eq_true rfl) dX7_seekSets_23 (fun H locs hP hD hS => ?_)
  obtain ⟨hP, hD⟩ := wl2 (ws' := [(oc7 oM iM_thrown rM_tape iM_taped iM_size iM_at iM_end iM_token iM_whole iM_nameSize iM_fault iM_place iM_trouble rM_letters iM_failed iM_hasCourt rM_r rM_fresh rM_told rM_read rM_st rM_undone rM_kept iM_undos iM_images rM_fresher iM_fresherSize iM_scale iM_night rM_heardRow rM_cutRow iM_breaths iM_cutMany iM_allBreaths rM_trial rM_words iM_fewestBreaths iM_orderMany iM_orderSum iM_leastOrder rM_often 0 0 x_2649 iM_allWeight iM_enoughWeight iM_worthSum iM_firstRest iM_leastDrawn), (arI rM_r kM_r 287 fM_r), (arI rM_told kM_told 90 fM_told), (arI rM_trial kM_trial 90 fM_trial), (arI rM_often kM_often 4 fM_often)]) hP hD rfl
  refine lv_iconst (v := 0) hx hb dX7_seekSets_26 (by decide) ?_
  refine lv_istore_n (lv' := [(3, .int 0), (2, .int (-1)), (0, .ref oM), (1, .int p0)]) hx hb dX7_seekSets_27 rfl hl (by decide) rfl (fun ls hl => ?_)
  have hl := lv_sub hl (l' := [(3, .int 0), (2, .int (-1)), (0, .ref oM), (1, .int p0)]) [0, 1, 2, 3] rfl
  have key_n_2652 : ∀ (n_2652 : Nat) (z_2650 : Int32) (f_2651 : Nat → Int32) (H : Heap) (locs : List Loc) (ls : Array Slot), (0 ≤ z_2650.toInt ∧ z_2650.toInt ≤ 2147483647) → (2147483647 - z_2650.toInt).toNat < n_2652 → (PX7_seekSets fM_r fM_told iM_scale iM_night fM_trial fM_often p0 = HX7_seekSets_0 fM_r fM_told iM_scale iM_night fM_trial p0 x_2649 n_2652 z_2650 f_2651) → va_P (dC, dI) vwCl [(oc7 oM iM_thrown rM_tape iM_taped iM_size iM_at iM_end iM_token iM_whole iM_nameSize iM_fault iM_place iM_trouble rM_letters iM_failed iM_hasCourt rM_r rM_fresh rM_told rM_read rM_st rM_undone rM_kept iM_undos iM_images rM_fresher iM_fresherSize iM_scale iM_night rM_heardRow rM_cutRow iM_breaths iM_cutMany iM_allBreaths rM_trial rM_words iM_fewestBreaths iM_orderMany iM_orderSum iM_leastOrder rM_often 0 0 x_2649 iM_allWeight iM_enoughWeight iM_worthSum iM_firstRest iM_leastDrawn), (arI rM_r kM_r 287 fM_r), (arI rM_told kM_told 90 fM_told), (arI rM_trial kM_trial 90 fM_trial), (arI rM_often kM_often 4 f_2651)] H → va_D A [(oc7 oM iM_thrown rM_tape iM_taped iM_size iM_at iM_end iM_token iM_whole iM_nameSize iM_fault iM_place iM_trouble rM_letters iM_failed iM_hasCourt rM_r rM_fresh rM_told rM_read rM_st rM_undone rM_kept iM_undos iM_images rM_fresher iM_fresherSize iM_scale iM_night rM_heardRow rM_cutRow iM_breaths iM_cutMany iM_allBreaths rM_trial rM_words iM_fewestBreaths iM_orderMany iM_orderSum iM_leastOrder rM_often 0 0 x_2649 iM_allWeight iM_enoughWeight iM_worthSum iM_firstRest iM_leastDrawn), (arI rM_r kM_r 287 fM_r), (arI rM_told kM_told 90 fM_told), (arI rM_trial kM_trial 90 fM_trial), (arI rM_often kM_often 4 f_2651)] → va_S A s.heap H locs → lv_has ls 5 [(3, .int z_2650), (2, .int (-1)), (0, .ref oM), (1, .int p0)] → W p l e (headSpec (Cond.code yX7_seekSets cX7_seekSets 5 (some .int) :: wG) ({ frames := 23, cells := 0, slots := 0, locals := 606 })).room s m ([.ref oM, .int p0] : List Value).toArray below meth c H locs 0 0 (MQ below (va_Qi (fun (r : Int32) (u : Nat) => (True ∧ True) ∧ r = Int32.ofNat u) (fun (u : Nat) (t : State) => ∃ (niM_setMany : Int32) (niM_someOf : Int32) (niM_allOf : Int32) (nfM_trial : Nat → Int32) (nfM_often : Nat → Int32), (PX7_seekSets fM_r fM_told iM_scale iM_night fM_trial fM_often p0 = (Int32.ofNat u, niM_setMany, niM_someOf, niM_allOf, nfM_trial, nfM_often)) ∧ Bw dC dI A [(oc7 oM iM_thrown rM_tape iM_taped iM_size iM_at iM_end iM_token iM_whole iM_nameSize iM_fault iM_place iM_trouble rM_letters iM_failed iM_hasCourt rM_r rM_fresh rM_told rM_read rM_st rM_undone rM_kept iM_undos iM_images rM_fresher iM_fresherSize iM_scale iM_night rM_heardRow rM_cutRow iM_breaths iM_cutMany iM_allBreaths rM_trial rM_words iM_fewestBreaths iM_orderMany iM_orderSum iM_leastOrder rM_often niM_setMany niM_someOf niM_allOf iM_allWeight iM_enoughWeight iM_worthSum iM_firstRest iM_leastDrawn), (arI rM_r kM_r 287 fM_r), (arI rM_told kM_told 90 fM_told), (arI rM_trial kM_trial 90 nfM_trial), (arI rM_often kM_often 4 nfM_often)] [(kM_r, .int), (kM_told, .int), (kM_trial, .int), (kM_often, .int)] t) A) ([.ref oM, .int p0] : List Value).toArray s 0 0 A) (F0 m 28 ls []) := by
    intro n_2652
    induction n_2652 with
    | zero => intro z_2650 f_2651 H locs ls hi0_n_2652 hm; exact absurd hm (by omega)
    | succ n_2652 ih_n_2652 =>
      intro z_2650 f_2651 H locs ls hi0_n_2652 hm hG hP hD hS hl
      have hG := hG.trans (HX7_seekSets_0_eq _ _ _ _ _ _ _ _ _ _)
      have rg_z_2650 := fb_rng z_2650
      refine lv_iload_n hx hb dX7_seekSets_28 rfl (lv_at hl 0 rfl) ?_
      refine lv_iconst (v := 4) hx hb dX7_seekSets_29 (by decide) ?_
      refine lv_icmp_ge (tgt := 46) hx hb dX7_seekSets_30 (by decide) (fun c_2653 => ?_) (fun c_2653 => ?_)
      · skip
        have hG := hG.trans (if_pos c_2653)
        have gc_2653 := ti_le c_2653 kc_4 rfl
        refine lv_iconst (v := 0) hx hb dX7_seekSets_46 (by decide) ?_
        refine lv_istore_n (lv' := [(3, .int 0), (2, .int (-1)), (0, .ref oM), (1, .int p0)]) hx hb dX7_seekSets_47 rfl hl (by decide) rfl (fun ls hl => ?_)
        have hl := lv_sub hl (l' := [(3, .int 0), (2, .int (-1)), (0, .ref oM), (1, .int p0)]) [0, 1, 2, 3] rfl
        have key_n_2661 : ∀ (n_2661 : Nat) (z_2654 : Int32) (z_2655 : Int32) (z_2656 : Int32) (z_2657 : Int32) (z_2658 : Int32) (f_2659 : Nat → Int32) (f_2660 : Nat → Int32) (H : Heap) (locs : List Loc) (ls : Array Slot), (0 ≤ z_2654.toInt ∧ z_2654.toInt ≤ 2147483647) → (2147483647 - z_2654.toInt).toNat < n_2661 → (PX7_seekSets fM_r fM_told iM_scale iM_night fM_trial fM_often p0 = HX7_seekSets_1 fM_r fM_told iM_scale iM_night p0 n_2661 z_2654 z_2655 z_2656 z_2657 z_2658 f_2659 f_2660) → va_P (dC, dI) vwCl [(oc7 oM iM_thrown rM_tape iM_taped iM_size iM_at iM_end iM_token iM_whole iM_nameSize iM_fault iM_place iM_trouble rM_letters iM_failed iM_hasCourt rM_r rM_fresh rM_told rM_read rM_st rM_undone rM_kept iM_undos iM_images rM_fresher iM_fresherSize iM_scale iM_night rM_heardRow rM_cutRow iM_breaths iM_cutMany iM_allBreaths rM_trial rM_words iM_fewestBreaths iM_orderMany iM_orderSum iM_leastOrder rM_often z_2656 z_2657 z_2658 iM_allWeight iM_enoughWeight iM_worthSum iM_firstRest iM_leastDrawn), (arI rM_r kM_r 287 fM_r), (arI rM_told kM_told 90 fM_told), (arI rM_trial kM_trial 90 f_2659), (arI rM_often kM_often 4 f_2660)] H → va_D A [(oc7 oM iM_thrown rM_tape iM_taped iM_size iM_at iM_end iM_token iM_whole iM_nameSize iM_fault iM_place iM_trouble rM_letters iM_failed iM_hasCourt rM_r rM_fresh rM_told rM_read rM_st rM_undone rM_kept iM_undos iM_images rM_fresher iM_fresherSize iM_scale iM_night rM_heardRow rM_cutRow iM_breaths iM_cutMany iM_allBreaths rM_trial rM_words iM_fewestBreaths iM_orderMany iM_orderSum iM_leastOrder rM_often z_2656 z_2657 z_2658 iM_allWeight iM_enoughWeight iM_worthSum iM_firstRest iM_leastDrawn), (arI rM_r kM_r 287 fM_r), (arI rM_told kM_told 90 fM_told), (arI rM_trial kM_trial 90 f_2659), (arI rM_often kM_often 4 f_2660)] → va_S A s.heap H locs → lv_has ls 5 [(3, .int z_2654), (2, .int z_2655), (0, .ref oM), (1, .int p0)] → W p l e (headSpec (Cond.code yX7_seekSets cX7_seekSets 5 (some .int) :: wG) ({ frames := 23, cells := 0, slots := 0, locals := 606 })).room s m ([.ref oM, .int p0] : List Value).toArray below meth c H locs 0 0 (MQ below (va_Qi (fun (r : Int32) (u : Nat) => (True ∧ True) ∧ r = Int32.ofNat u) (fun (u : Nat) (t : State) => ∃ (niM_setMany : Int32) (niM_someOf : Int32) (niM_allOf : Int32) (nfM_trial : Nat → Int32) (nfM_often : Nat → Int32), (PX7_seekSets fM_r fM_told iM_scale iM_night fM_trial fM_often p0 = (Int32.ofNat u, niM_setMany, niM_someOf, niM_allOf, nfM_trial, nfM_often)) ∧ Bw dC dI A [(oc7 oM iM_thrown rM_tape iM_taped iM_size iM_at iM_end iM_token iM_whole iM_nameSize iM_fault iM_place iM_trouble rM_letters iM_failed iM_hasCourt rM_r rM_fresh rM_told rM_read rM_st rM_undone rM_kept iM_undos iM_images rM_fresher iM_fresherSize iM_scale iM_night rM_heardRow rM_cutRow iM_breaths iM_cutMany iM_allBreaths rM_trial rM_words iM_fewestBreaths iM_orderMany iM_orderSum iM_leastOrder rM_often niM_setMany niM_someOf niM_allOf iM_allWeight iM_enoughWeight iM_worthSum iM_firstRest iM_leastDrawn), (arI rM_r kM_r 287 fM_r), (arI rM_told kM_told 90 fM_told), (arI rM_trial kM_trial 90 nfM_trial), (arI rM_often kM_often 4 nfM_often)] [(kM_r, .int), (kM_told, .int), (kM_trial, .int), (kM_often, .int)] t) A) ([.ref oM, .int p0] : List Value).toArray s 0 0 A) (F0 m 48 ls []) := by
          intro n_2661
          induction n_2661 with
          | zero => intro z_2654 z_2655 z_2656 z_2657 z_2658 f_2659 f_2660 H locs ls hi0_n_2661 hm; exact absurd hm (by omega)
          | succ n_2661 ih_n_2661 =>
            intro z_2654 z_2655 z_2656 z_2657 z_2658 f_2659 f_2660 H locs ls hi0_n_2661 hm hG hP hD hS hl
            have hG := hG.trans (HX7_seekSets_1_eq _ _ _ _ _ _ _ _ _ _ _ _ _)
            have rg_z_2654 := fb_rng z_2654
            have rg_z_2655 := fb_rng z_2655
            have rg_z_2656 := fb_rng z_2656
            have rg_z_2657 := fb_rng z_2657
            have rg_z_2658 := fb_rng z_2658
            refine lv_iload_n hx hb dX7_seekSets_48 rfl (lv_at hl 0 rfl) ?_
            refine lv_iconst (v := 1) hx hb dX7_seekSets_49 (by decide) ?_
            refine lv_aload_n hx hb dX7_seekSets_50 rfl (lv_at hl 2 rfl) ?_
            refine va_get (D := (dC, dI)) (ci := 7) (v := .ref rM_r) (C := RX7) (T := TX7) (N := 48) hx hb hts inX7 hown hK hP 0 rfl rfl 15 (by decide) (hts _ wd_155) (fun _ h9 => h9) rfl dX7_seekSets_51 ?_
            refine lv_iconst (v := 3) hx hb dX7_seekSets_54 (by decide) ?_
            refine va_iald hx hb hK hP 1 0 rfl rfl (by unfold vp_in; decide) dX7_seekSets_55 ?_
            refine lv_topi (fun x_2662 ex_2662 => ?_)
            have hG := hG.trans (lt_eq ex_2662)
            have rg_x_2662 := fb_rng x_2662
            have cx_2662 : (fM_r 3).toInt = x_2662.toInt := congrArg Int32.toInt (show fM_r 3 = x_2662 from ex_2662.symm)
            have sx_2662 := r_R.uns
            refine lv_ishl hx hb dX7_seekSets_56 ?_
            refine lv_topi (fun x_2663 ex_2663 => ?_)
            have hG := hG.trans (lt_eq ex_2663)
            have rg_x_2663 := fb_rng x_2663
            have qx_2663 := ti_shl ex_2663 rfl (by omega) (by omega)
            refine lv_icmp_ge (tgt := 153) hx hb dX7_seekSets_57 (by decide) (fun c_2664 => ?_) (fun c_2664 => ?_)
            · skip
              have hG := hG.trans (if_pos c_2664)
              have gc_2664 := ti_le c_2664 rfl rfl
              refine lv_aload_n hx hb dX7_seekSets_153 rfl (lv_at hl 2 rfl) ?_
              refine va_get (D := (dC, dI)) (ci := 7) (v := .int z_2656) (C := RX7) (T := TX7) (N := 48) hx hb hts inX7 hown hK hP 0 rfl rfl 40 (by decide) (hts _ wd_1181) (fun _ h9 => h9) rfl dX7_seekSets_154 ?_
              refine lv_if_ne (tgt := 165) hx hb dX7_seekSets_157 (by decide) (fun c_2665 => ?_) (fun c_2665 => ?_)
              · skip
                have hG := hG.trans (if_neg c_2665)
                have gc_2665 := ti_ne c_2665 rfl kc_0
                refine lv_iload_n hx hb dX7_seekSets_165 rfl (lv_at hl 1 rfl) ?_
                exact W.iret hx hb hr (fun t ht hW => ⟨⟨_, (cI z_2655), rfl, ⟨⟨trivial, trivial⟩, (cI_of z_2655)⟩, ⟨z_2656, z_2657, z_2658, f_2659, f_2660, (cI_tup hG), Bw.to (hP.sub [0, 1, 2, 3, 4] rfl) (hD.sub [0, 1, 2, 3, 4] (by decide) rfl) (hK.sub [0, 1, 2, 3] rfl) ht hW⟩⟩, hS.F ht⟩) hS.2.2 dX7_seekSets_166
              · skip
                have hG := hG.trans (if_pos c_2665)
                have gc_2665 := ti_eq c_2665 rfl kc_0
                refine lv_aload_n hx hb dX7_seekSets_160 rfl (lv_at hl 2 rfl) ?_
                refine lv_iconst (v := 0) hx hb dX7_seekSets_161 (by decide) ?_
                refine va_put (D := (dC, dI)) (ci := 7) (v := .int 0) (ty := .int) (C := RX7) (T := TX7) (N := 48) hx hb hts inX7 tyX7 tyX7_ok nmX7 hown hK hP hD hS 0 rfl rfl 42 (by decide) (hts _ wd_1187) (fun _ h9 => h9) rfl (by decide +kernel) rfl rfl (Nat.le_of_ble_eq_true rfl) dX7_seekSets_162 (fun H locs hP hD hS => ?_)
                obtain ⟨hP, hD⟩ := wl2 (ws' := [(oc7 oM iM_thrown rM_tape iM_taped iM_size iM_at iM_end iM_token iM_whole iM_nameSize iM_fault iM_place iM_trouble rM_letters iM_failed iM_hasCourt rM_r rM_fresh rM_told rM_read rM_st rM_undone rM_kept iM_undos iM_images rM_fresher iM_fresherSize iM_scale iM_night rM_heardRow rM_cutRow iM_breaths iM_cutMany iM_allBreaths rM_trial rM_words iM_fewestBreaths iM_orderMany iM_orderSum iM_leastOrder rM_often z_2656 z_2657 0 iM_allWeight iM_enoughWeight iM_worthSum iM_firstRest iM_leastDrawn), (arI rM_r kM_r 287 fM_r), (arI rM_told kM_told 90 fM_told), (arI rM_trial kM_trial 90 f_2659), (arI rM_often kM_often 4 f_2660)]) hP hD rfl
                refine lv_iload_n hx hb dX7_seekSets_165 rfl (lv_at hl 1 rfl) ?_
                exact W.iret hx hb hr (fun t ht hW => ⟨⟨_, (cI z_2655), rfl, ⟨⟨trivial, trivial⟩, (cI_of z_2655)⟩, ⟨z_2656, z_2657, 0, f_2659, f_2660, (cI_tup hG), Bw.to (hP.sub [0, 1, 2, 3, 4] rfl) (hD.sub [0, 1, 2, 3, 4] (by decide) rfl) (hK.sub [0, 1, 2, 3] rfl) ht hW⟩⟩, hS.F ht⟩) hS.2.2 dX7_seekSets_166
            · skip
              have hG := hG.trans (if_neg c_2664)
              have gc_2664 := ti_nle c_2664 rfl rfl
              refine lv_aload_n hx hb dX7_seekSets_60 rfl (lv_at hl 2 rfl) ?_
              refine lv_iload_n hx hb dX7_seekSets_61 rfl (lv_at hl 0 rfl) ?_
              have hFc := va_free (wc := [(oc7 oM iM_thrown rM_tape iM_taped iM_size iM_at iM_end iM_token iM_whole iM_nameSize iM_fault iM_place iM_trouble rM_letters iM_failed iM_hasCourt rM_r rM_fresh rM_told rM_read rM_st rM_undone rM_kept iM_undos iM_images rM_fresher iM_fresherSize iM_scale iM_night rM_heardRow rM_cutRow iM_breaths iM_cutMany iM_allBreaths rM_trial rM_words iM_fewestBreaths iM_orderMany iM_orderSum iM_leastOrder rM_often z_2656 z_2657 z_2658 iM_allWeight iM_enoughWeight iM_worthSum iM_firstRest iM_leastDrawn), (arI rM_r kM_r 287 fM_r), (arI rM_told kM_told 90 fM_told), (arI rM_trial kM_trial 90 f_2659)]) hD hS hA [0, 1, 2, 3] rfl
              refine va_calli (va_runV (As := [.int z_2654]) (rest := []) ⟨hx, hb, hml, hown, hts⟩ (tX7_doesFit l dC dI _ oM iM_thrown rM_tape iM_taped iM_size iM_at iM_end iM_token iM_whole iM_nameSize iM_fault iM_place iM_trouble rM_letters iM_failed iM_hasCourt rM_r fM_r kM_r rM_fresh rM_told fM_told kM_told rM_read rM_st rM_undone rM_kept iM_undos iM_images rM_fresher iM_fresherSize iM_scale iM_night rM_heardRow rM_cutRow iM_breaths iM_cutMany iM_allBreaths rM_trial f_2659 kM_trial rM_words iM_fewestBreaths iM_orderMany iM_orderSum iM_leastOrder rM_often z_2656 z_2657 z_2658 iM_allWeight iM_enoughWeight iM_worthSum iM_firstRest iM_leastDrawn z_2654 (by first | omega | decide) (by first | omega | decide) (by first | omega | decide) (by first | omega | decide) (by first | omega | decide) (by first | omega | decide) (by first | omega | decide) (by first | omega | decide) (by first | omega | decide) (by first | omega | decide) (by assumption) (by assumption) (by assumption) (by first | omega | decide | assumption | (have q0 := kc_0; have q1 := kc_1; omega) | (intro h; exact absurd h (by decide)))) (cwV 1 hts (wd_V wd_1188 wd_1189 wd_1190 wd_5 (wd_c wd_1191)) rfl rfl rfl (by decide +kernel) ⟨Nat.le_of_ble_eq_true rfl, Nat.le_of_ble_eq_true rfl⟩) ⟨Pw.fb, va_recv hK hP (ci := 7) (q0 := 0) rfl rfl, fun U hU hW => Pw.to (hP.sub [0, 1, 2, 3] rfl) (hD.sub [0, 1, 2, 3] (by decide) rfl) (hK.sub [0, 1, 2] rfl) hE hS hFc hU hW⟩ rfl rfl hl.1 rfl (lv_room (Nat.le_of_ble_eq_true rfl)) dX7_seekSets_62 ⟨Nat.le_of_ble_eq_true rfl, Nat.le_of_ble_eq_true rfl⟩) hS (fun q _ h => hFc q h) hFc (fun r u t H locs ht hvm hw hB hz1 hk1 hS => ?_)
              have hru9 := hw.2
              have hw := hw.1
              obtain ⟨f_2666, e_f_2666_0, hB⟩ := hB
              obtain ⟨hP, hD, hK⟩ := Bw.go (ws' := [(arI rM_often kM_often 4 f_2660), (oc7 oM iM_thrown rM_tape iM_taped iM_size iM_at iM_end iM_token iM_whole iM_nameSize iM_fault iM_place iM_trouble rM_letters iM_failed iM_hasCourt rM_r rM_fresh rM_told rM_read rM_st rM_undone rM_kept iM_undos iM_images rM_fresher iM_fresherSize iM_scale iM_night rM_heardRow rM_cutRow iM_breaths iM_cutMany iM_allBreaths rM_trial rM_words iM_fewestBreaths iM_orderMany iM_orderSum iM_leastOrder rM_often z_2656 z_2657 z_2658 iM_allWeight iM_enoughWeight iM_worthSum iM_firstRest iM_leastDrawn), (arI rM_r kM_r 287 fM_r), (arI rM_told kM_told 90 fM_told), (arI rM_trial kM_trial 90 f_2666)]) (tys' := [(kM_often, .int), (kM_r, .int), (kM_told, .int), (kM_trial, .int)]) hB rfl ht hvm hP hD hK [0, 1, 2, 3] [4] rfl (by decide) (by decide) [3] hk1 hFc rfl rfl rfl
              clear hz1 hk1 hvm ht hB
              rw [← hru9] at e_f_2666_0
              obtain ⟨x_2667, rfl⟩ : ∃ z, z = r := ⟨_, rfl⟩
              have hG := hG.trans (un2_eq e_f_2666_0)
              have rg_x_2667 := fb_rng x_2667
              have bx_2667 := hw.1
              have dx_2667 := bz_ti bx_2667
              refine lv_if_ne (tgt := 71) hx hb dX7_seekSets_65 (by decide) (fun c_2668 => ?_) (fun c_2668 => ?_)
              · skip
                have hG := hG.trans (if_neg c_2668)
                have gc_2668 := ti_ne c_2668 rfl kc_0
                refine lv_aload_n hx hb dX7_seekSets_71 rfl (lv_at hl 2 rfl) ?_
                refine va_get (D := (dC, dI)) (ci := 7) (v := .int z_2656) (C := RX7) (T := TX7) (N := 48) hx hb hts inX7 hown hK hP 1 rfl rfl 40 (by decide) (hts _ wd_1181) (fun _ h9 => h9) rfl dX7_seekSets_72 ?_
                refine lv_iload_n hx hb dX7_seekSets_75 rfl (lv_at hl 3 rfl) ?_
                refine lv_icmp_ne (tgt := 81) hx hb dX7_seekSets_76 (by decide) (fun c_2669 => ?_) (fun c_2669 => ?_)
                · skip
                  have hG := hG.trans (if_neg c_2669)
                  have gc_2669 := ti_ne c_2669 rfl rfl
                  refine lv_aload_n hx hb dX7_seekSets_81 rfl (lv_at hl 2 rfl) ?_
                  refine lv_dup hx hb dX7_seekSets_82 rfl ?_
                  refine va_get (D := (dC, dI)) (ci := 7) (v := .int z_2656) (C := RX7) (T := TX7) (N := 48) hx hb hts inX7 hown hK hP 1 rfl rfl 40 (by decide) (hts _ wd_1181) (fun _ h9 => h9) rfl dX7_seekSets_83 ?_
                  refine lv_iconst (v := 1) hx hb dX7_seekSets_86 (by decide) ?_
                  refine lv_iadd hx hb dX7_seekSets_87 ?_
                  refine lv_topi (fun x_2670 ex_2670 => ?_)
                  have hG := hG.trans (lt_eq ex_2670)
                  have rg_x_2670 := fb_rng x_2670
                  refine va_put (D := (dC, dI)) (ci := 7) (v := .int x_2670) (ty := .int) (C := RX7) (T := TX7) (N := 48) hx hb hts inX7 tyX7 tyX7_ok nmX7 hown hK hP hD hS 1 rfl rfl 40 (by decide) (hts _ wd_1181) (fun _ h9 => h9) rfl (by decide +kernel) rfl rfl (Nat.le_of_ble_eq_true rfl) dX7_seekSets_88 (fun H locs hP hD hS => ?_)
                  obtain ⟨hP, hD⟩ := wl2 (ws' := [(arI rM_often kM_often 4 f_2660), (oc7 oM iM_thrown rM_tape iM_taped iM_size iM_at iM_end iM_token iM_whole iM_nameSize iM_fault iM_place iM_trouble rM_letters iM_failed iM_hasCourt rM_r rM_fresh rM_told rM_read rM_st rM_undone rM_kept iM_undos iM_images rM_fresher iM_fresherSize iM_scale iM_night rM_heardRow rM_cutRow iM_breaths iM_cutMany iM_allBreaths rM_trial rM_words iM_fewestBreaths iM_orderMany iM_orderSum iM_leastOrder rM_often x_2670 z_2657 z_2658 iM_allWeight iM_enoughWeight iM_worthSum iM_firstRest iM_leastDrawn), (arI rM_r kM_r 287 fM_r), (arI rM_told kM_told 90 fM_told), (arI rM_trial kM_trial 90 f_2666)]) hP hD rfl
                  refine lv_aload_n hx hb dX7_seekSets_91 rfl (lv_at hl 2 rfl) ?_
                  refine lv_dup hx hb dX7_seekSets_92 rfl ?_
                  refine va_get (D := (dC, dI)) (ci := 7) (v := .int z_2657) (C := RX7) (T := TX7) (N := 48) hx hb hts inX7 hown hK hP 1 rfl rfl 41 (by decide) (hts _ wd_1186) (fun _ h9 => h9) rfl dX7_seekSets_93 ?_
                  refine lv_iload_n hx hb dX7_seekSets_96 rfl (lv_at hl 0 rfl) ?_
                  refine lv_ior hx hb dX7_seekSets_97 ?_
                  refine lv_topi (fun x_2671 ex_2671 => ?_)
                  have hG := hG.trans (lt_eq ex_2671)
                  have rg_x_2671 := fb_rng x_2671
                  refine va_put (D := (dC, dI)) (ci := 7) (v := .int x_2671) (ty := .int) (C := RX7) (T := TX7) (N := 48) hx hb hts inX7 tyX7 tyX7_ok nmX7 hown hK hP hD hS 1 rfl rfl 41 (by decide) (hts _ wd_1186) (fun _ h9 => h9) rfl (by decide +kernel) rfl rfl (Nat.le_of_ble_eq_true rfl) dX7_seekSets_98 (fun H locs hP hD hS => ?_)
                  obtain ⟨hP, hD⟩ := wl2 (ws' := [(arI rM_often kM_often 4 f_2660), (oc7 oM iM_thrown rM_tape iM_taped iM_size iM_at iM_end iM_token iM_whole iM_nameSize iM_fault iM_place iM_trouble rM_letters iM_failed iM_hasCourt rM_r rM_fresh rM_told rM_read rM_st rM_undone rM_kept iM_undos iM_images rM_fresher iM_fresherSize iM_scale iM_night rM_heardRow rM_cutRow iM_breaths iM_cutMany iM_allBreaths rM_trial rM_words iM_fewestBreaths iM_orderMany iM_orderSum iM_leastOrder rM_often x_2670 x_2671 z_2658 iM_allWeight iM_enoughWeight iM_worthSum iM_firstRest iM_leastDrawn), (arI rM_r kM_r 287 fM_r), (arI rM_told kM_told 90 fM_told), (arI rM_trial kM_trial 90 f_2666)]) hP hD rfl
                  refine lv_aload_n hx hb dX7_seekSets_101 rfl (lv_at hl 2 rfl) ?_
                  refine lv_dup hx hb dX7_seekSets_102 rfl ?_
                  refine va_get (D := (dC, dI)) (ci := 7) (v := .int z_2658) (C := RX7) (T := TX7) (N := 48) hx hb hts inX7 hown hK hP 1 rfl rfl 42 (by decide) (hts _ wd_1187) (fun _ h9 => h9) rfl dX7_seekSets_103 ?_
                  refine lv_iload_n hx hb dX7_seekSets_106 rfl (lv_at hl 0 rfl) ?_
                  refine lv_iand hx hb dX7_seekSets_107 ?_
                  refine lv_topi (fun x_2672 ex_2672 => ?_)
                  have hG := hG.trans (lt_eq ex_2672)
                  have rg_x_2672 := fb_rng x_2672
                  refine va_put (D := (dC, dI)) (ci := 7) (v := .int x_2672) (ty := .int) (C := RX7) (T := TX7) (N := 48) hx hb hts inX7 tyX7 tyX7_ok nmX7 hown hK hP hD hS 1 rfl rfl 42 (by decide) (hts _ wd_1187) (fun _ h9 => h9) rfl (by decide +kernel) rfl rfl (Nat.le_of_ble_eq_true rfl) dX7_seekSets_108 (fun H locs hP hD hS => ?_)
                  obtain ⟨hP, hD⟩ := wl2 (ws' := [(arI rM_often kM_often 4 f_2660), (oc7 oM iM_thrown rM_tape iM_taped iM_size iM_at iM_end iM_token iM_whole iM_nameSize iM_fault iM_place iM_trouble rM_letters iM_failed iM_hasCourt rM_r rM_fresh rM_told rM_read rM_st rM_undone rM_kept iM_undos iM_images rM_fresher iM_fresherSize iM_scale iM_night rM_heardRow rM_cutRow iM_breaths iM_cutMany iM_allBreaths rM_trial rM_words iM_fewestBreaths iM_orderMany iM_orderSum iM_leastOrder rM_often x_2670 x_2671 x_2672 iM_allWeight iM_enoughWeight iM_worthSum iM_firstRest iM_leastDrawn), (arI rM_r kM_r 287 fM_r), (arI rM_told kM_told 90 fM_told), (arI rM_trial kM_trial 90 f_2666)]) hP hD rfl
                  refine lv_iconst (v := 0) hx hb dX7_seekSets_111 (by decide) ?_
                  refine lv_istore (lv' := [(4, .int 0), (3, .int z_2654), (2, .int z_2655), (0, .ref oM), (1, .int p0)]) hx hb dX7_seekSets_112 hl (by decide) rfl (fun ls hl => ?_)
                  have hl := lv_sub hl (l' := [(4, .int 0), (3, .int z_2654), (2, .int z_2655), (0, .ref oM), (1, .int p0)]) [0, 1, 2, 3, 4] rfl
                  have key_n_2675 : ∀ (n_2675 : Nat) (z_2673 : Int32) (f_2674 : Nat → Int32) (H : Heap) (locs : List Loc) (ls : Array Slot), (0 ≤ z_2673.toInt ∧ z_2673.toInt ≤ 2147483647) → (2147483647 - z_2673.toInt).toNat < n_2675 → (PX7_seekSets fM_r fM_told iM_scale iM_night fM_trial fM_often p0 = HX7_seekSets_3 fM_r z_2654 z_2655 f_2666 x_2670 x_2671 x_2672 (fun (z_2654 : Int32) (z_2655 : Int32) (z_2656 : Int32) (z_2657 : Int32) (z_2658 : Int32) (f_2659 : Nat → Int32) (f_2660 : Nat → Int32) => HX7_seekSets_1 fM_r fM_told iM_scale iM_night p0 n_2661 z_2654 z_2655 z_2656 z_2657 z_2658 f_2659 f_2660) n_2675 z_2673 f_2674) → va_P (dC, dI) vwCl [(arI rM_often kM_often 4 f_2674), (oc7 oM iM_thrown rM_tape iM_taped iM_size iM_at iM_end iM_token iM_whole iM_nameSize iM_fault iM_place iM_trouble rM_letters iM_failed iM_hasCourt rM_r rM_fresh rM_told rM_read rM_st rM_undone rM_kept iM_undos iM_images rM_fresher iM_fresherSize iM_scale iM_night rM_heardRow rM_cutRow iM_breaths iM_cutMany iM_allBreaths rM_trial rM_words iM_fewestBreaths iM_orderMany iM_orderSum iM_leastOrder rM_often x_2670 x_2671 x_2672 iM_allWeight iM_enoughWeight iM_worthSum iM_firstRest iM_leastDrawn), (arI rM_r kM_r 287 fM_r), (arI rM_told kM_told 90 fM_told), (arI rM_trial kM_trial 90 f_2666)] H → va_D A [(arI rM_often kM_often 4 f_2674), (oc7 oM iM_thrown rM_tape iM_taped iM_size iM_at iM_end iM_token iM_whole iM_nameSize iM_fault iM_place iM_trouble rM_letters iM_failed iM_hasCourt rM_r rM_fresh rM_told rM_read rM_st rM_undone rM_kept iM_undos iM_images rM_fresher iM_fresherSize iM_scale iM_night rM_heardRow rM_cutRow iM_breaths iM_cutMany iM_allBreaths rM_trial rM_words iM_fewestBreaths iM_orderMany iM_orderSum iM_leastOrder rM_often x_2670 x_2671 x_2672 iM_allWeight iM_enoughWeight iM_worthSum iM_firstRest iM_leastDrawn), (arI rM_r kM_r 287 fM_r), (arI rM_told kM_told 90 fM_told), (arI rM_trial kM_trial 90 f_2666)] → va_S A s.heap H locs → lv_has ls 5 [(4, .int z_2673), (3, .int z_2654), (2, .int z_2655), (0, .ref oM), (1, .int p0)] → W p l e (headSpec (Cond.code yX7_seekSets cX7_seekSets 5 (some .int) :: wG) ({ frames := 23, cells := 0, slots := 0, locals := 606 })).room s m ([.ref oM, .int p0] : List Value).toArray below meth c H locs 0 0 (MQ below (va_Qi (fun (r : Int32) (u : Nat) => (True ∧ True) ∧ r = Int32.ofNat u) (fun (u : Nat) (t : State) => ∃ (niM_setMany : Int32) (niM_someOf : Int32) (niM_allOf : Int32) (nfM_trial : Nat → Int32) (nfM_often : Nat → Int32), (PX7_seekSets fM_r fM_told iM_scale iM_night fM_trial fM_often p0 = (Int32.ofNat u, niM_setMany, niM_someOf, niM_allOf, nfM_trial, nfM_often)) ∧ Bw dC dI A [(oc7 oM iM_thrown rM_tape iM_taped iM_size iM_at iM_end iM_token iM_whole iM_nameSize iM_fault iM_place iM_trouble rM_letters iM_failed iM_hasCourt rM_r rM_fresh rM_told rM_read rM_st rM_undone rM_kept iM_undos iM_images rM_fresher iM_fresherSize iM_scale iM_night rM_heardRow rM_cutRow iM_breaths iM_cutMany iM_allBreaths rM_trial rM_words iM_fewestBreaths iM_orderMany iM_orderSum iM_leastOrder rM_often niM_setMany niM_someOf niM_allOf iM_allWeight iM_enoughWeight iM_worthSum iM_firstRest iM_leastDrawn), (arI rM_r kM_r 287 fM_r), (arI rM_told kM_told 90 fM_told), (arI rM_trial kM_trial 90 nfM_trial), (arI rM_often kM_often 4 nfM_often)] [(kM_r, .int), (kM_told, .int), (kM_trial, .int), (kM_often, .int)] t) A) ([.ref oM, .int p0] : List Value).toArray s 0 0 A) (F0 m 114 ls []) := by
                    intro n_2675
                    induction n_2675 with
                    | zero => intro z_2673 f_2674 H locs ls hi0_n_2675 hm; exact absurd hm (by omega)
                    | succ n_2675 ih_n_2675 =>
                      intro z_2673 f_2674 H locs ls hi0_n_2675 hm hG hP hD hS hl
                      have hG := hG.trans (HX7_seekSets_3_eq _ _ _ _ _ _ _ _ _ _ _)
                      have rg_z_2673 := fb_rng z_2673
                      refine lv_iload hx hb dX7_seekSets_114 (lv_at hl 0 rfl) ?_
                      refine lv_aload_n hx hb dX7_seekSets_116 rfl (lv_at hl 3 rfl) ?_
                      refine va_get (D := (dC, dI)) (ci := 7) (v := .ref rM_r) (C := RX7) (T := TX7) (N := 48) hx hb hts inX7 hown hK hP 1 rfl rfl 15 (by decide) (hts _ wd_155) (fun _ h9 => h9) rfl dX7_seekSets_117 ?_
                      refine lv_iconst (v := 3) hx hb dX7_seekSets_120 (by decide) ?_
                      refine va_iald hx hb hK hP 2 1 rfl rfl (by unfold vp_in; decide) dX7_seekSets_121 ?_
                      refine lv_topi (fun x_2676 ex_2676 => ?_)
                      have hG := hG.trans (lt_eq ex_2676)
                      have rg_x_2676 := fb_rng x_2676
                      have cx_2676 : (fM_r 3).toInt = x_2676.toInt := congrArg Int32.toInt (show fM_r 3 = x_2676 from ex_2676.symm)
                      have sx_2676 := r_R.uns
                      refine lv_icmp_ge (tgt := 147) hx hb dX7_seekSets_122 (by decide) (fun c_2677 => ?_) (fun c_2677 => ?_)
                      · skip
                        have hG := hG.trans (if_pos c_2677)
                        have gc_2677 := ti_le c_2677 rfl rfl
                        obtain ⟨x_2678, ex_2678⟩ : ∃ z : Int32, z = z_2654 + Int32.ofInt 1 := ⟨_, rfl⟩
                        have hG := hG.trans (lt_eq ex_2678)
                        have vx_2678 : x_2678.toInt = z_2654.toInt + 1 := by have q := ti_add (y := 1) ex_2678 rfl kc_1 (by omega) (by omega); omega
                        refine lv_iinc (v := x_2678) (lv' := [(3, .int x_2678), (4, .int z_2673), (2, .int z_2655), (0, .ref oM), (1, .int p0)]) hx hb dX7_seekSets_147 hl (k := 1) rfl ex_2678.symm (by decide) rfl (fun ls hl => ?_)
                        refine lv_goto (tgt := 48) hx hb dX7_seekSets_150 (by decide) ?_
                        exact ih_n_2661 x_2678 z_2655 x_2670 x_2671 x_2672 f_2666 f_2674 _ _ _  (by first | omega | decide | assumption) (by omega) hG (hP.sub [1, 2, 3, 4, 0] rfl) (hD.sub [1, 2, 3, 4, 0] (by decide) rfl) hS (lv_sub hl [0, 2, 3, 4] rfl)
                      · skip
                        have hG := hG.trans (if_neg c_2677)
                        have gc_2677 := ti_nle c_2677 rfl rfl
                        refine lv_aload_n hx hb dX7_seekSets_125 rfl (lv_at hl 3 rfl) ?_
                        refine va_get (D := (dC, dI)) (ci := 7) (v := .ref rM_often) (C := RX7) (T := TX7) (N := 48) hx hb hts inX7 hown hK hP 1 rfl rfl 39 (by decide) (hts _ wd_169) (fun _ h9 => h9) rfl dX7_seekSets_126 ?_
                        refine lv_iload hx hb dX7_seekSets_129 (lv_at hl 0 rfl) ?_
                        refine lv_dup2_11 hx hb dX7_seekSets_131 rfl rfl ?_
                        refine va_iald hx hb hK hP 0 0 rfl rfl (ti_in rfl (by omega) (by omega)) dX7_seekSets_132 ?_
                        refine lv_topi (fun x_2679 ex_2679 => ?_)
                        have hG := hG.trans (lt_eq ex_2679)
                        have rg_x_2679 := fb_rng x_2679
                        have kx_2679 : (f_2674 z_2673.toNatClampNeg).toInt = x_2679.toInt := by rw [ex_2679]
                        have cx_2679 := kx_2679
                        refine lv_iload_n hx hb dX7_seekSets_133 rfl (lv_at hl 1 rfl) ?_
                        refine lv_iload hx hb dX7_seekSets_134 (lv_at hl 0 rfl) ?_
                        refine lv_ishr hx hb dX7_seekSets_136 ?_
                        refine lv_topi (fun x_2680 ex_2680 => ?_)
                        have hG := hG.trans (lt_eq ex_2680)
                        have rg_x_2680 := fb_rng x_2680
                        refine lv_iconst (v := 1) hx hb dX7_seekSets_137 (by decide) ?_
                        refine lv_iand hx hb dX7_seekSets_138 ?_
                        refine lv_topi (fun x_2681 ex_2681 => ?_)
                        have hG := hG.trans (lt_eq ex_2681)
                        have rg_x_2681 := fb_rng x_2681
                        refine lv_iadd hx hb dX7_seekSets_139 ?_
                        refine lv_topi (fun x_2682 ex_2682 => ?_)
                        have hG := hG.trans (lt_eq ex_2682)
                        have rg_x_2682 := fb_rng x_2682
                        refine va_iast hx hb hK hP hD hS 0 0 rfl rfl (ti_in rfl (by omega) (by omega)) dX7_seekSets_140 (fun H locs hP hD hS => ?_)
                        obtain ⟨f_2684, ef_2684⟩ : ∃ g : Nat → Int32, g = upd f_2674 z_2673.toNatClampNeg x_2682 := ⟨_, rfl⟩
                        rw [← ef_2684] at hP hD
                        have hG := hG.trans (lt_eq ef_2684)
                        obtain ⟨hP, hD⟩ := wl2 (ws' := [(arI rM_often kM_often 4 f_2684), (oc7 oM iM_thrown rM_tape iM_taped iM_size iM_at iM_end iM_token iM_whole iM_nameSize iM_fault iM_place iM_trouble rM_letters iM_failed iM_hasCourt rM_r rM_fresh rM_told rM_read rM_st rM_undone rM_kept iM_undos iM_images rM_fresher iM_fresherSize iM_scale iM_night rM_heardRow rM_cutRow iM_breaths iM_cutMany iM_allBreaths rM_trial rM_words iM_fewestBreaths iM_orderMany iM_orderSum iM_leastOrder rM_often x_2670 x_2671 x_2672 iM_allWeight iM_enoughWeight iM_worthSum iM_firstRest iM_leastDrawn), (arI rM_r kM_r 287 fM_r), (arI rM_told kM_told 90 fM_told), (arI rM_trial kM_trial 90 f_2666)]) hP hD rfl
                        obtain ⟨x_2685, ex_2685⟩ : ∃ z : Int32, z = z_2673 + Int32.ofInt 1 := ⟨_, rfl⟩
                        have hG := hG.trans (lt_eq ex_2685)
                        have vx_2685 : x_2685.toInt = z_2673.toInt + 1 := by have q := ti_add (y := 1) ex_2685 rfl kc_1 (by omega) (by omega); omega
                        refine lv_iinc (v := x_2685) (lv' := [(4, .int x_2685), (3, .int z_2654), (2, .int z_2655), (0, .ref oM), (1, .int p0)]) hx hb dX7_seekSets_141 hl (k := 0) rfl ex_2685.symm (by decide) rfl (fun ls hl => ?_)
                        refine lv_goto (tgt := 114) hx hb dX7_seekSets_144 (by decide) ?_
                        exact ih_n_2675 x_2685 f_2684 _ _ _  (by first | omega | decide | assumption) (by omega) hG (hP.sub [0, 1, 2, 3, 4] rfl) (hD.sub [0, 1, 2, 3, 4] (by decide) rfl) hS (lv_sub hl [0, 1, 2, 3, 4] rfl)
                  exact key_n_2675 (((2147483647 - (0 : Int32).toInt).toNat) + 1) 0 f_2660 _ _ _  (by first | omega | decide | assumption | (have q0 := kc_0; have q1 := kc_1; omega)) (by omega) hG hP hD hS hl
                · skip
                  have hG := hG.trans (if_pos c_2669)
                  have gc_2669 := ti_eq c_2669 rfl rfl
                  refine lv_iload_n hx hb dX7_seekSets_79 rfl (lv_at hl 0 rfl) ?_
                  refine lv_istore_n (lv' := [(2, .int z_2654), (3, .int z_2654), (0, .ref oM), (1, .int p0)]) hx hb dX7_seekSets_80 rfl hl (by decide) rfl (fun ls hl => ?_)
                  refine lv_aload_n hx hb dX7_seekSets_81 rfl (lv_at hl 2 rfl) ?_
                  refine lv_dup hx hb dX7_seekSets_82 rfl ?_
                  refine va_get (D := (dC, dI)) (ci := 7) (v := .int z_2656) (C := RX7) (T := TX7) (N := 48) hx hb hts inX7 hown hK hP 1 rfl rfl 40 (by decide) (hts _ wd_1181) (fun _ h9 => h9) rfl dX7_seekSets_83 ?_
                  refine lv_iconst (v := 1) hx hb dX7_seekSets_86 (by decide) ?_
                  refine lv_iadd hx hb dX7_seekSets_87 ?_
                  refine lv_topi (fun x_2686 ex_2686 => ?_)
                  have hG := hG.trans (lt_eq ex_2686)
                  have rg_x_2686 := fb_rng x_2686
                  refine va_put (D := (dC, dI)) (ci := 7) (v := .int x_2686) (ty := .int) (C := RX7) (T := TX7) (N := 48) hx hb hts inX7 tyX7 tyX7_ok nmX7 hown hK hP hD hS 1 rfl rfl 40 (by decide) (hts _ wd_1181) (fun _ h9 => h9) rfl (by decide +kernel) rfl rfl (Nat.le_of_ble_eq_true rfl) dX7_seekSets_88 (fun H locs hP hD hS => ?_)
                  obtain ⟨hP, hD⟩ := wl2 (ws' := [(arI rM_often kM_often 4 f_2660), (oc7 oM iM_thrown rM_tape iM_taped iM_size iM_at iM_end iM_token iM_whole iM_nameSize iM_fault iM_place iM_trouble rM_letters iM_failed iM_hasCourt rM_r rM_fresh rM_told rM_read rM_st rM_undone rM_kept iM_undos iM_images rM_fresher iM_fresherSize iM_scale iM_night rM_heardRow rM_cutRow iM_breaths iM_cutMany iM_allBreaths rM_trial rM_words iM_fewestBreaths iM_orderMany iM_orderSum iM_leastOrder rM_often x_2686 z_2657 z_2658 iM_allWeight iM_enoughWeight iM_worthSum iM_firstRest iM_leastDrawn), (arI rM_r kM_r 287 fM_r), (arI rM_told kM_told 90 fM_told), (arI rM_trial kM_trial 90 f_2666)]) hP hD rfl
                  refine lv_aload_n hx hb dX7_seekSets_91 rfl (lv_at hl 2 rfl) ?_
                  refine lv_dup hx hb dX7_seekSets_92 rfl ?_
                  refine va_get (D := (dC, dI)) (ci := 7) (v := .int z_2657) (C := RX7) (T := TX7) (N := 48) hx hb hts inX7 hown hK hP 1 rfl rfl 41 (by decide) (hts _ wd_1186) (fun _ h9 => h9) rfl dX7_seekSets_93 ?_
                  refine lv_iload_n hx hb dX7_seekSets_96 rfl (lv_at hl 1 rfl) ?_
                  refine lv_ior hx hb dX7_seekSets_97 ?_
                  refine lv_topi (fun x_2687 ex_2687 => ?_)
                  have hG := hG.trans (lt_eq ex_2687)
                  have rg_x_2687 := fb_rng x_2687
                  refine va_put (D := (dC, dI)) (ci := 7) (v := .int x_2687) (ty := .int) (C := RX7) (T := TX7) (N := 48) hx hb hts inX7 tyX7 tyX7_ok nmX7 hown hK hP hD hS 1 rfl rfl 41 (by decide) (hts _ wd_1186) (fun _ h9 => h9) rfl (by decide +kernel) rfl rfl (Nat.le_of_ble_eq_true rfl) dX7_seekSets_98 (fun H locs hP hD hS => ?_)
                  obtain ⟨hP, hD⟩ := wl2 (ws' := [(arI rM_often kM_often 4 f_2660), (oc7 oM iM_thrown rM_tape iM_taped iM_size iM_at iM_end iM_token iM_whole iM_nameSize iM_fault iM_place iM_trouble rM_letters iM_failed iM_hasCourt rM_r rM_fresh rM_told rM_read rM_st rM_undone rM_kept iM_undos iM_images rM_fresher iM_fresherSize iM_scale iM_night rM_heardRow rM_cutRow iM_breaths iM_cutMany iM_allBreaths rM_trial rM_words iM_fewestBreaths iM_orderMany iM_orderSum iM_leastOrder rM_often x_2686 x_2687 z_2658 iM_allWeight iM_enoughWeight iM_worthSum iM_firstRest iM_leastDrawn), (arI rM_r kM_r 287 fM_r), (arI rM_told kM_told 90 fM_told), (arI rM_trial kM_trial 90 f_2666)]) hP hD rfl
                  refine lv_aload_n hx hb dX7_seekSets_101 rfl (lv_at hl 2 rfl) ?_
                  refine lv_dup hx hb dX7_seekSets_102 rfl ?_
                  refine va_get (D := (dC, dI)) (ci := 7) (v := .int z_2658) (C := RX7) (T := TX7) (N := 48) hx hb hts inX7 hown hK hP 1 rfl rfl 42 (by decide) (hts _ wd_1187) (fun _ h9 => h9) rfl dX7_seekSets_103 ?_
                  refine lv_iload_n hx hb dX7_seekSets_106 rfl (lv_at hl 1 rfl) ?_
                  refine lv_iand hx hb dX7_seekSets_107 ?_
                  refine lv_topi (fun x_2688 ex_2688 => ?_)
                  have hG := hG.trans (lt_eq ex_2688)
                  have rg_x_2688 := fb_rng x_2688
                  refine va_put (D := (dC, dI)) (ci := 7) (v := .int x_2688) (ty := .int) (C := RX7) (T := TX7) (N := 48) hx hb hts inX7 tyX7 tyX7_ok nmX7 hown hK hP hD hS 1 rfl rfl 42 (by decide) (hts _ wd_1187) (fun _ h9 => h9) rfl (by decide +kernel) rfl rfl (Nat.le_of_ble_eq_true rfl) dX7_seekSets_108 (fun H locs hP hD hS => ?_)
                  obtain ⟨hP, hD⟩ := wl2 (ws' := [(arI rM_often kM_often 4 f_2660), (oc7 oM iM_thrown rM_tape iM_taped iM_size iM_at iM_end iM_token iM_whole iM_nameSize iM_fault iM_place iM_trouble rM_letters iM_failed iM_hasCourt rM_r rM_fresh rM_told rM_read rM_st rM_undone rM_kept iM_undos iM_images rM_fresher iM_fresherSize iM_scale iM_night rM_heardRow rM_cutRow iM_breaths iM_cutMany iM_allBreaths rM_trial rM_words iM_fewestBreaths iM_orderMany iM_orderSum iM_leastOrder rM_often x_2686 x_2687 x_2688 iM_allWeight iM_enoughWeight iM_worthSum iM_firstRest iM_leastDrawn), (arI rM_r kM_r 287 fM_r), (arI rM_told kM_told 90 fM_told), (arI rM_trial kM_trial 90 f_2666)]) hP hD rfl
                  refine lv_iconst (v := 0) hx hb dX7_seekSets_111 (by decide) ?_
                  refine lv_istore (lv' := [(4, .int 0), (2, .int z_2654), (3, .int z_2654), (0, .ref oM), (1, .int p0)]) hx hb dX7_seekSets_112 hl (by decide) rfl (fun ls hl => ?_)
                  have hl := lv_sub hl (l' := [(4, .int 0), (2, .int z_2654), (3, .int z_2654), (0, .ref oM), (1, .int p0)]) [0, 1, 2, 3, 4] rfl
                  have key_n_2691 : ∀ (n_2691 : Nat) (z_2689 : Int32) (f_2690 : Nat → Int32) (H : Heap) (locs : List Loc) (ls : Array Slot), (0 ≤ z_2689.toInt ∧ z_2689.toInt ≤ 2147483647) → (2147483647 - z_2689.toInt).toNat < n_2691 → (PX7_seekSets fM_r fM_told iM_scale iM_night fM_trial fM_often p0 = HX7_seekSets_2 fM_r z_2654 f_2666 x_2686 x_2687 x_2688 (fun (z_2654 : Int32) (z_2655 : Int32) (z_2656 : Int32) (z_2657 : Int32) (z_2658 : Int32) (f_2659 : Nat → Int32) (f_2660 : Nat → Int32) => HX7_seekSets_1 fM_r fM_told iM_scale iM_night p0 n_2661 z_2654 z_2655 z_2656 z_2657 z_2658 f_2659 f_2660) n_2691 z_2689 f_2690) → va_P (dC, dI) vwCl [(arI rM_often kM_often 4 f_2690), (oc7 oM iM_thrown rM_tape iM_taped iM_size iM_at iM_end iM_token iM_whole iM_nameSize iM_fault iM_place iM_trouble rM_letters iM_failed iM_hasCourt rM_r rM_fresh rM_told rM_read rM_st rM_undone rM_kept iM_undos iM_images rM_fresher iM_fresherSize iM_scale iM_night rM_heardRow rM_cutRow iM_breaths iM_cutMany iM_allBreaths rM_trial rM_words iM_fewestBreaths iM_orderMany iM_orderSum iM_leastOrder rM_often x_2686 x_2687 x_2688 iM_allWeight iM_enoughWeight iM_worthSum iM_firstRest iM_leastDrawn), (arI rM_r kM_r 287 fM_r), (arI rM_told kM_told 90 fM_told), (arI rM_trial kM_trial 90 f_2666)] H → va_D A [(arI rM_often kM_often 4 f_2690), (oc7 oM iM_thrown rM_tape iM_taped iM_size iM_at iM_end iM_token iM_whole iM_nameSize iM_fault iM_place iM_trouble rM_letters iM_failed iM_hasCourt rM_r rM_fresh rM_told rM_read rM_st rM_undone rM_kept iM_undos iM_images rM_fresher iM_fresherSize iM_scale iM_night rM_heardRow rM_cutRow iM_breaths iM_cutMany iM_allBreaths rM_trial rM_words iM_fewestBreaths iM_orderMany iM_orderSum iM_leastOrder rM_often x_2686 x_2687 x_2688 iM_allWeight iM_enoughWeight iM_worthSum iM_firstRest iM_leastDrawn), (arI rM_r kM_r 287 fM_r), (arI rM_told kM_told 90 fM_told), (arI rM_trial kM_trial 90 f_2666)] → va_S A s.heap H locs → lv_has ls 5 [(4, .int z_2689), (2, .int z_2654), (3, .int z_2654), (0, .ref oM), (1, .int p0)] → W p l e (headSpec (Cond.code yX7_seekSets cX7_seekSets 5 (some .int) :: wG) ({ frames := 23, cells := 0, slots := 0, locals := 606 })).room s m ([.ref oM, .int p0] : List Value).toArray below meth c H locs 0 0 (MQ below (va_Qi (fun (r : Int32) (u : Nat) => (True ∧ True) ∧ r = Int32.ofNat u) (fun (u : Nat) (t : State) => ∃ (niM_setMany : Int32) (niM_someOf : Int32) (niM_allOf : Int32) (nfM_trial : Nat → Int32) (nfM_often : Nat → Int32), (PX7_seekSets fM_r fM_told iM_scale iM_night fM_trial fM_often p0 = (Int32.ofNat u, niM_setMany, niM_someOf, niM_allOf, nfM_trial, nfM_often)) ∧ Bw dC dI A [(oc7 oM iM_thrown rM_tape iM_taped iM_size iM_at iM_end iM_token iM_whole iM_nameSize iM_fault iM_place iM_trouble rM_letters iM_failed iM_hasCourt rM_r rM_fresh rM_told rM_read rM_st rM_undone rM_kept iM_undos iM_images rM_fresher iM_fresherSize iM_scale iM_night rM_heardRow rM_cutRow iM_breaths iM_cutMany iM_allBreaths rM_trial rM_words iM_fewestBreaths iM_orderMany iM_orderSum iM_leastOrder rM_often niM_setMany niM_someOf niM_allOf iM_allWeight iM_enoughWeight iM_worthSum iM_firstRest iM_leastDrawn), (arI rM_r kM_r 287 fM_r), (arI rM_told kM_told 90 fM_told), (arI rM_trial kM_trial 90 nfM_trial), (arI rM_often kM_often 4 nfM_often)] [(kM_r, .int), (kM_told, .int), (kM_trial, .int), (kM_often, .int)] t) A) ([.ref oM, .int p0] : List Value).toArray s 0 0 A) (F0 m 114 ls []) := by
                    intro n_2691
                    induction n_2691 with
                    | zero => intro z_2689 f_2690 H locs ls hi0_n_2691 hm; exact absurd hm (by omega)
                    | succ n_2691 ih_n_2691 =>
                      intro z_2689 f_2690 H locs ls hi0_n_2691 hm hG hP hD hS hl
                      have hG := hG.trans (HX7_seekSets_2_eq _ _ _ _ _ _ _ _ _ _)
                      have rg_z_2689 := fb_rng z_2689
                      refine lv_iload hx hb dX7_seekSets_114 (lv_at hl 0 rfl) ?_
                      refine lv_aload_n hx hb dX7_seekSets_116 rfl (lv_at hl 3 rfl) ?_
                      refine va_get (D := (dC, dI)) (ci := 7) (v := .ref rM_r) (C := RX7) (T := TX7) (N := 48) hx hb hts inX7 hown hK hP 1 rfl rfl 15 (by decide) (hts _ wd_155) (fun _ h9 => h9) rfl dX7_seekSets_117 ?_
                      refine lv_iconst (v := 3) hx hb dX7_seekSets_120 (by decide) ?_
                      refine va_iald hx hb hK hP 2 1 rfl rfl (by unfold vp_in; decide) dX7_seekSets_121 ?_
                      refine lv_topi (fun x_2692 ex_2692 => ?_)
                      have hG := hG.trans (lt_eq ex_2692)
                      have rg_x_2692 := fb_rng x_2692
                      have cx_2692 : (fM_r 3).toInt = x_2692.toInt := congrArg Int32.toInt (show fM_r 3 = x_2692 from ex_2692.symm)
                      have sx_2692 := r_R.uns
                      refine lv_icmp_ge (tgt := 147) hx hb dX7_seekSets_122 (by decide) (fun c_2693 => ?_) (fun c_2693 => ?_)
                      · skip
                        have hG := hG.trans (if_pos c_2693)
                        have gc_2693 := ti_le c_2693 rfl rfl
                        obtain ⟨x_2694, ex_2694⟩ : ∃ z : Int32, z = z_2654 + Int32.ofInt 1 := ⟨_, rfl⟩
                        have hG := hG.trans (lt_eq ex_2694)
                        have vx_2694 : x_2694.toInt = z_2654.toInt + 1 := by have q := ti_add (y := 1) ex_2694 rfl kc_1 (by omega) (by omega); omega
                        refine lv_iinc (v := x_2694) (lv' := [(3, .int x_2694), (4, .int z_2689), (2, .int z_2654), (0, .ref oM), (1, .int p0)]) hx hb dX7_seekSets_147 hl (k := 2) rfl ex_2694.symm (by decide) rfl (fun ls hl => ?_)
                        refine lv_goto (tgt := 48) hx hb dX7_seekSets_150 (by decide) ?_
                        exact ih_n_2661 x_2694 z_2654 x_2686 x_2687 x_2688 f_2666 f_2690 _ _ _  (by first | omega | decide | assumption) (by omega) hG (hP.sub [1, 2, 3, 4, 0] rfl) (hD.sub [1, 2, 3, 4, 0] (by decide) rfl) hS (lv_sub hl [0, 2, 3, 4] rfl)
                      · skip
                        have hG := hG.trans (if_neg c_2693)
                        have gc_2693 := ti_nle c_2693 rfl rfl
                        refine lv_aload_n hx hb dX7_seekSets_125 rfl (lv_at hl 3 rfl) ?_
                        refine va_get (D := (dC, dI)) (ci := 7) (v := .ref rM_often) (C := RX7) (T := TX7) (N := 48) hx hb hts inX7 hown hK hP 1 rfl rfl 39 (by decide) (hts _ wd_169) (fun _ h9 => h9) rfl dX7_seekSets_126 ?_
                        refine lv_iload hx hb dX7_seekSets_129 (lv_at hl 0 rfl) ?_
                        refine lv_dup2_11 hx hb dX7_seekSets_131 rfl rfl ?_
                        refine va_iald hx hb hK hP 0 0 rfl rfl (ti_in rfl (by omega) (by omega)) dX7_seekSets_132 ?_
                        refine lv_topi (fun x_2695 ex_2695 => ?_)
                        have hG := hG.trans (lt_eq ex_2695)
                        have rg_x_2695 := fb_rng x_2695
                        have kx_2695 : (f_2690 z_2689.toNatClampNeg).toInt = x_2695.toInt := by rw [ex_2695]
                        have cx_2695 := kx_2695
                        refine lv_iload_n hx hb dX7_seekSets_133 rfl (lv_at hl 2 rfl) ?_
                        refine lv_iload hx hb dX7_seekSets_134 (lv_at hl 0 rfl) ?_
                        refine lv_ishr hx hb dX7_seekSets_136 ?_
                        refine lv_topi (fun x_2696 ex_2696 => ?_)
                        have hG := hG.trans (lt_eq ex_2696)
                        have rg_x_2696 := fb_rng x_2696
                        refine lv_iconst (v := 1) hx hb dX7_seekSets_137 (by decide) ?_
                        refine lv_iand hx hb dX7_seekSets_138 ?_
                        refine lv_topi (fun x_2697 ex_2697 => ?_)
                        have hG := hG.trans (lt_eq ex_2697)
                        have rg_x_2697 := fb_rng x_2697
                        refine lv_iadd hx hb dX7_seekSets_139 ?_
                        refine lv_topi (fun x_2698 ex_2698 => ?_)
                        have hG := hG.trans (lt_eq ex_2698)
                        have rg_x_2698 := fb_rng x_2698
                        refine va_iast hx hb hK hP hD hS 0 0 rfl rfl (ti_in rfl (by omega) (by omega)) dX7_seekSets_140 (fun H locs hP hD hS => ?_)
                        obtain ⟨f_2700, ef_2700⟩ : ∃ g : Nat → Int32, g = upd f_2690 z_2689.toNatClampNeg x_2698 := ⟨_, rfl⟩
                        rw [← ef_2700] at hP hD
                        have hG := hG.trans (lt_eq ef_2700)
                        obtain ⟨hP, hD⟩ := wl2 (ws' := [(arI rM_often kM_often 4 f_2700), (oc7 oM iM_thrown rM_tape iM_taped iM_size iM_at iM_end iM_token iM_whole iM_nameSize iM_fault iM_place iM_trouble rM_letters iM_failed iM_hasCourt rM_r rM_fresh rM_told rM_read rM_st rM_undone rM_kept iM_undos iM_images rM_fresher iM_fresherSize iM_scale iM_night rM_heardRow rM_cutRow iM_breaths iM_cutMany iM_allBreaths rM_trial rM_words iM_fewestBreaths iM_orderMany iM_orderSum iM_leastOrder rM_often x_2686 x_2687 x_2688 iM_allWeight iM_enoughWeight iM_worthSum iM_firstRest iM_leastDrawn), (arI rM_r kM_r 287 fM_r), (arI rM_told kM_told 90 fM_told), (arI rM_trial kM_trial 90 f_2666)]) hP hD rfl
                        obtain ⟨x_2701, ex_2701⟩ : ∃ z : Int32, z = z_2689 + Int32.ofInt 1 := ⟨_, rfl⟩
                        have hG := hG.trans (lt_eq ex_2701)
                        have vx_2701 : x_2701.toInt = z_2689.toInt + 1 := by have q := ti_add (y := 1) ex_2701 rfl kc_1 (by omega) (by omega); omega
                        refine lv_iinc (v := x_2701) (lv' := [(4, .int x_2701), (2, .int z_2654), (3, .int z_2654), (0, .ref oM), (1, .int p0)]) hx hb dX7_seekSets_141 hl (k := 0) rfl ex_2701.symm (by decide) rfl (fun ls hl => ?_)
                        refine lv_goto (tgt := 114) hx hb dX7_seekSets_144 (by decide) ?_
                        exact ih_n_2691 x_2701 f_2700 _ _ _  (by first | omega | decide | assumption) (by omega) hG (hP.sub [0, 1, 2, 3, 4] rfl) (hD.sub [0, 1, 2, 3, 4] (by decide) rfl) hS (lv_sub hl [0, 1, 2, 3, 4] rfl)
                  exact key_n_2691 (((2147483647 - (0 : Int32).toInt).toNat) + 1) 0 f_2660 _ _ _  (by first | omega | decide | assumption | (have q0 := kc_0; have q1 := kc_1; omega)) (by omega) hG hP hD hS hl
              · skip
                have hG := hG.trans (if_pos c_2668)
                have gc_2668 := ti_eq c_2668 rfl kc_0
                refine lv_goto (tgt := 147) hx hb dX7_seekSets_68 (by decide) ?_
                obtain ⟨x_2702, ex_2702⟩ : ∃ z : Int32, z = z_2654 + Int32.ofInt 1 := ⟨_, rfl⟩
                have hG := hG.trans (lt_eq ex_2702)
                have vx_2702 : x_2702.toInt = z_2654.toInt + 1 := by have q := ti_add (y := 1) ex_2702 rfl kc_1 (by omega) (by omega); omega
                refine lv_iinc (v := x_2702) (lv' := [(3, .int x_2702), (2, .int z_2655), (0, .ref oM), (1, .int p0)]) hx hb dX7_seekSets_147 hl (k := 0) rfl ex_2702.symm (by decide) rfl (fun ls hl => ?_)
                refine lv_goto (tgt := 48) hx hb dX7_seekSets_150 (by decide) ?_
                exact ih_n_2661 x_2702 z_2655 z_2656 z_2657 z_2658 f_2666 f_2660 _ _ _  (by first | omega | decide | assumption) (by omega) hG (hP.sub [1, 2, 3, 4, 0] rfl) (hD.sub [1, 2, 3, 4, 0] (by decide) rfl) hS (lv_sub hl [0, 1, 2, 3] rfl)
        exact key_n_2661 (((2147483647 - (0 : Int32).toInt).toNat) + 1) 0 (-1) 0 0 x_2649 fM_trial f_2651 _ _ _  (by first | omega | decide | assumption | (have q0 := kc_m1; have q1 := kc_0; have q2 := kc_1; omega)) (by omega) hG hP hD hS hl
      · skip
        have hG := hG.trans (if_neg c_2653)
        have gc_2653 := ti_nle c_2653 kc_4 rfl
        refine lv_aload_n hx hb dX7_seekSets_33 rfl (lv_at hl 2 rfl) ?_
        refine va_get (D := (dC, dI)) (ci := 7) (v := .ref rM_often) (C := RX7) (T := TX7) (N := 48) hx hb hts inX7 hown hK hP 0 rfl rfl 39 (by decide) (hts _ wd_169) (fun _ h9 => h9) rfl dX7_seekSets_34 ?_
        refine lv_iload_n hx hb dX7_seekSets_37 rfl (lv_at hl 0 rfl) ?_
        refine lv_iconst (v := 0) hx hb dX7_seekSets_38 (by decide) ?_
        refine va_iast hx hb hK hP hD hS 4 3 rfl rfl (ti_in rfl (by omega) (by omega)) dX7_seekSets_39 (fun H locs hP hD hS => ?_)
        obtain ⟨f_2704, ef_2704⟩ : ∃ g : Nat → Int32, g = upd f_2651 z_2650.toNatClampNeg (0 : Int32) := ⟨_, rfl⟩
        rw [← ef_2704] at hP hD
        have hG := hG.trans (lt_eq ef_2704)
        obtain ⟨hP, hD⟩ := wl2 (ws' := [(oc7 oM iM_thrown rM_tape iM_taped iM_size iM_at iM_end iM_token iM_whole iM_nameSize iM_fault iM_place iM_trouble rM_letters iM_failed iM_hasCourt rM_r rM_fresh rM_told rM_read rM_st rM_undone rM_kept iM_undos iM_images rM_fresher iM_fresherSize iM_scale iM_night rM_heardRow rM_cutRow iM_breaths iM_cutMany iM_allBreaths rM_trial rM_words iM_fewestBreaths iM_orderMany iM_orderSum iM_leastOrder rM_often 0 0 x_2649 iM_allWeight iM_enoughWeight iM_worthSum iM_firstRest iM_leastDrawn), (arI rM_r kM_r 287 fM_r), (arI rM_told kM_told 90 fM_told), (arI rM_trial kM_trial 90 fM_trial), (arI rM_often kM_often 4 f_2704)]) hP hD rfl
        obtain ⟨x_2705, ex_2705⟩ : ∃ z : Int32, z = z_2650 + Int32.ofInt 1 := ⟨_, rfl⟩
        have hG := hG.trans (lt_eq ex_2705)
        have vx_2705 : x_2705.toInt = z_2650.toInt + 1 := by have q := ti_add (y := 1) ex_2705 rfl kc_1 (by omega) (by omega); omega
        refine lv_iinc (v := x_2705) (lv' := [(3, .int x_2705), (2, .int (-1)), (0, .ref oM), (1, .int p0)]) hx hb dX7_seekSets_40 hl (k := 0) rfl ex_2705.symm (by decide) rfl (fun ls hl => ?_)
        refine lv_goto (tgt := 28) hx hb dX7_seekSets_43 (by decide) ?_
        exact ih_n_2652 x_2705 f_2704 _ _ _  (by first | omega | decide | assumption) (by omega) hG (hP.sub [0, 1, 2, 3, 4] rfl) (hD.sub [0, 1, 2, 3, 4] (by decide) rfl) hS (lv_sub hl [0, 1, 2, 3] rfl)
  exact key_n_2652 (((2147483647 - (0 : Int32).toInt).toNat) + 1) 0 fM_often _ _ _  (by first | omega | decide | assumption | (have q0 := kc_0; have q1 := kc_1; omega)) (by omega) hG hP hD hS hl
set_option maxHeartbeats 4000000 in
set_option maxRecDepth 100000 in
theorem tX7_leavesOf (l : Launch) (dC : Nat → ClassId) (dI : Nat → Nat → Nat) (sz : Nat) (oM : Nat) (iM_thrown : Int32) (rM_tape : Nat) (iM_taped : Int32) (iM_size : Int32) (iM_at : Int32) (iM_end : Int32) (iM_token : Int32) (iM_whole : Int32) (iM_nameSize : Int32) (iM_fault : Int32) (iM_place : Int32) (iM_trouble : Int32) (rM_letters : Nat) (iM_failed : Int32) (iM_hasCourt : Int32) (rM_r : Nat) (rM_fresh : Nat) (rM_told : Nat) (rM_read : Nat) (rM_st : Nat) (rM_undone : Nat) (rM_kept : Nat) (iM_undos : Int32) (iM_images : Int32) (rM_fresher : Nat) (iM_fresherSize : Int32) (iM_scale : Int32) (iM_night : Int32) (rM_heardRow : Nat) (rM_cutRow : Nat) (iM_breaths : Int32) (iM_cutMany : Int32) (iM_allBreaths : Int32) (rM_trial : Nat) (rM_words : Nat) (iM_fewestBreaths : Int32) (iM_orderMany : Int32) (iM_orderSum : Int32) (iM_leastOrder : Int32) (rM_often : Nat) (fM_often : Nat → Int32) (kM_often : ClassId) (iM_setMany : Int32) (iM_someOf : Int32) (iM_allOf : Int32) (iM_allWeight : Int64) (iM_enoughWeight : Int64) (iM_worthSum : Int64) (iM_firstRest : Int32) (iM_leastDrawn : Int32) (p0 : Int32) (b_iM_taped : 0 ≤ iM_taped.toInt ∧ iM_taped.toInt ≤ 900) (b_iM_size : 0 ≤ iM_size.toInt ∧ iM_size.toInt ≤ 900) (b_iM_end : 0 ≤ iM_end.toInt ∧ iM_end.toInt ≤ 900) (b_iM_failed : 0 ≤ iM_failed.toInt ∧ iM_failed.toInt ≤ 1) (b_iM_hasCourt : 0 ≤ iM_hasCourt.toInt ∧ iM_hasCourt.toInt ≤ 1) (b_iM_undos : 0 ≤ iM_undos.toInt ∧ iM_undos.toInt ≤ 16) (b_iM_images : 0 ≤ iM_images.toInt ∧ iM_images.toInt ≤ 3) (b_iM_scale : 1 ≤ iM_scale.toInt ∧ iM_scale.toInt ≤ 1296) (b_iM_breaths : 0 ≤ iM_breaths.toInt ∧ iM_breaths.toInt ≤ 399) (b_iM_cutMany : 0 ≤ iM_cutMany.toInt ∧ iM_cutMany.toInt ≤ 399) (hp0 : 0 ≤ p0.toInt ∧ p0.toInt ≤ 3) : Met l yX7_leavesOf (Cond.code yX7_leavesOf cX7_leavesOf 2 (some .int) :: wG) ({ frames := 0, cells := 0, slots := 0, locals := 0 }) (va_Pc [.ref oM, .int p0] (Pw dC dI sz [(oc7 oM iM_thrown rM_tape iM_taped iM_size iM_at iM_end iM_token iM_whole iM_nameSize iM_fault iM_place iM_trouble rM_letters iM_failed iM_hasCourt rM_r rM_fresh rM_told rM_read rM_st rM_undone rM_kept iM_undos iM_images rM_fresher iM_fresherSize iM_scale iM_night rM_heardRow rM_cutRow iM_breaths iM_cutMany iM_allBreaths rM_trial rM_words iM_fewestBreaths iM_orderMany iM_orderSum iM_leastOrder rM_often iM_setMany iM_someOf iM_allOf iM_allWeight iM_enoughWeight iM_worthSum iM_firstRest iM_leastDrawn), (arI rM_often kM_often 4 fM_often)] [(kM_often, .int)])) (va_Qi (fun (r : Int32) (_ : Nat) => (True ∧ True) ∧ PX7_leavesOf fM_often iM_setMany p0 = r) (fun (_ : Nat) (t : State) => Bw dC dI (va_A [(oc7 oM iM_thrown rM_tape iM_taped iM_size iM_at iM_end iM_token iM_whole iM_nameSize iM_fault iM_place iM_trouble rM_letters iM_failed iM_hasCourt rM_r rM_fresh rM_told rM_read rM_st rM_undone rM_kept iM_undos iM_images rM_fresher iM_fresherSize iM_scale iM_night rM_heardRow rM_cutRow iM_breaths iM_cutMany iM_allBreaths rM_trial rM_words iM_fewestBreaths iM_orderMany iM_orderSum iM_leastOrder rM_often iM_setMany iM_someOf iM_allOf iM_allWeight iM_enoughWeight iM_worthSum iM_firstRest iM_leastDrawn), (arI rM_often kM_often 4 fM_often)] sz) [(oc7 oM iM_thrown rM_tape iM_taped iM_size iM_at iM_end iM_token iM_whole iM_nameSize iM_fault iM_place iM_trouble rM_letters iM_failed iM_hasCourt rM_r rM_fresh rM_told rM_read rM_st rM_undone rM_kept iM_undos iM_images rM_fresher iM_fresherSize iM_scale iM_night rM_heardRow rM_cutRow iM_breaths iM_cutMany iM_allBreaths rM_trial rM_words iM_fewestBreaths iM_orderMany iM_orderSum iM_leastOrder rM_often iM_setMany iM_someOf iM_allOf iM_allWeight iM_enoughWeight iM_worthSum iM_firstRest iM_leastDrawn), (arI rM_often kM_often 4 fM_often)] [(kM_often, .int)] t) (va_A [(oc7 oM iM_thrown rM_tape iM_taped iM_size iM_at iM_end iM_token iM_whole iM_nameSize iM_fault iM_place iM_trouble rM_letters iM_failed iM_hasCourt rM_r rM_fresh rM_told rM_read rM_st rM_undone rM_kept iM_undos iM_images rM_fresher iM_fresherSize iM_scale iM_night rM_heardRow rM_cutRow iM_breaths iM_cutMany iM_allBreaths rM_trial rM_words iM_fewestBreaths iM_orderMany iM_orderSum iM_leastOrder rM_often iM_setMany iM_someOf iM_allOf iM_allWeight iM_enoughWeight iM_worthSum iM_firstRest iM_leastDrawn), (arI rM_often kM_often 4 fM_often)] sz)) 0 0 (va_A [(oc7 oM iM_thrown rM_tape iM_taped iM_size iM_at iM_end iM_token iM_whole iM_nameSize iM_fault iM_place iM_trouble rM_letters iM_failed iM_hasCourt rM_r rM_fresh rM_told rM_read rM_st rM_undone rM_kept iM_undos iM_images rM_fresher iM_fresherSize iM_scale iM_night rM_heardRow rM_cutRow iM_breaths iM_cutMany iM_allBreaths rM_trial rM_words iM_fewestBreaths iM_orderMany iM_orderSum iM_leastOrder rM_often iM_setMany iM_someOf iM_allOf iM_allWeight iM_enoughWeight iM_worthSum iM_firstRest iM_leastDrawn), (arI rM_often kM_often 4 fM_often)] sz) := by
  refine Met.ofW (cc := cX7_leavesOf) (maxL := 2) (ret := (some .int)) (by decide) rfl ?_
  intro p e s m args below meth c s₁ B hml hv
  obtain ⟨rfl, hsz, hP, hK, hD0, hE⟩ := hv
  have hx := B.exec
  have hb := B.bytes
  have hr := B.returns
  have hts : ∀ w ∈ wG, w.before ([.ref oM, .int p0] : List Value).toArray s = true := fun w h => atoms_spec (ws := Cond.code yX7_leavesOf cX7_leavesOf 2 (some .int) :: wG) B.pre w (List.mem_cons_of_mem _ h)
  have hown : s.vm.findClass RX7 = some m.cls := findClass_of_methodNamed B.named
  have hlocks := B.notSynchronized
  subst hsz
  have hD := hD0.self (sz := s.heap.size)
  generalize hAe : va_A [(oc7 oM iM_thrown rM_tape iM_taped iM_size iM_at iM_end iM_token iM_whole iM_nameSize iM_fault iM_place iM_trouble rM_letters iM_failed iM_hasCourt rM_r rM_fresh rM_told rM_read rM_st rM_undone rM_kept iM_undos iM_images rM_fresher iM_fresherSize iM_scale iM_night rM_heardRow rM_cutRow iM_breaths iM_cutMany iM_allBreaths rM_trial rM_words iM_fewestBreaths iM_orderMany iM_orderSum iM_leastOrder rM_often iM_setMany iM_someOf iM_allOf iM_allWeight iM_enoughWeight iM_worthSum iM_firstRest iM_leastDrawn), (arI rM_often kM_often 4 fM_often)] s.heap.size = A at hD hE ⊢
  have hA : ∀ q : Nat, s.heap.size ≤ q → A q := fun q h => by rw [← hAe]; exact Or.inr h
  have hS : va_S A s.heap s.heap [] := va_S.rf
  have hl := lv_entry ([.ref oM, .int p0]) (n := 2) (Nat.le_of_ble_eq_true rfl)
  rw [lg_entry_eq]
  generalize (lg_sl ([.ref oM, .int p0]) ++ List.replicate (2 - (lg_sl ([.ref oM, .int p0])).length) Slot.unset).toArray = ls at hl ⊢
  have hl : lv_has ls 2 [(0, .ref oM), (1, .int p0)] := hl
  have hG := PX7_leavesOf_eq fM_often iM_setMany p0
  refine lv_aload_n hx hb dX7_leavesOf_0 rfl (lv_at hl 0 rfl) ?_
  refine va_get (D := (dC, dI)) (ci := 7) (v := .ref rM_often) (C := RX7) (T := TX7) (N := 48) hx hb hts inX7 hown hK hP 0 rfl rfl 39 (by decide) (hts _ wd_169) (fun _ h9 => h9) rfl dX7_leavesOf_1 ?_
  refine lv_iload_n hx hb dX7_leavesOf_4 rfl (lv_at hl 1 rfl) ?_
  refine va_iald hx hb hK hP 1 0 rfl rfl (ti_in rfl (by omega) (by omega)) dX7_leavesOf_5 ?_
  refine lv_topi (fun x_2713 ex_2713 => ?_)
  have hG := hG.trans (lt_eq ex_2713)
  have kx_2713 : (fM_often p0.toNatClampNeg).toInt = x_2713.toInt := by rw [ex_2713]
  have cx_2713 := kx_2713
  refine lv_aload_n hx hb dX7_leavesOf_6 rfl (lv_at hl 0 rfl) ?_
  refine va_get (D := (dC, dI)) (ci := 7) (v := .int iM_setMany) (C := RX7) (T := TX7) (N := 48) hx hb hts inX7 hown hK hP 0 rfl rfl 40 (by decide) (hts _ wd_1181) (fun _ h9 => h9) rfl dX7_leavesOf_7 ?_
  refine lv_aload_n hx hb dX7_leavesOf_10 rfl (lv_at hl 0 rfl) ?_
  refine va_get (D := (dC, dI)) (ci := 7) (v := .ref rM_often) (C := RX7) (T := TX7) (N := 48) hx hb hts inX7 hown hK hP 0 rfl rfl 39 (by decide) (hts _ wd_169) (fun _ h9 => h9) rfl dX7_leavesOf_11 ?_
  refine lv_iload_n hx hb dX7_leavesOf_14 rfl (lv_at hl 1 rfl) ?_
  refine va_iald hx hb hK hP 1 0 rfl rfl (ti_in rfl (by omega) (by omega)) dX7_leavesOf_15 ?_
  refine lv_topi (fun x_2714 ex_2714 => ?_)
  have hG := hG.trans (lt_eq ex_2714)
  have kx_2714 : (fM_often p0.toNatClampNeg).toInt = x_2714.toInt := by rw [ex_2714]
  have cx_2714 := kx_2714
  refine lv_isub hx hb dX7_leavesOf_16 ?_
  refine lv_topi (fun x_2715 ex_2715 => ?_)
  have hG := hG.trans (lt_eq ex_2715)
  refine lv_icmp_le (tgt := 29) hx hb dX7_leavesOf_17 (by decide) (fun c_2716 => ?_) (fun c_2716 => ?_)
  · skip
    have hG := hG.trans (if_pos c_2716)
    have gc_2716 := ti_le c_2716 rfl rfl
    refine lv_aload_n hx hb dX7_leavesOf_29 rfl (lv_at hl 0 rfl) ?_
    refine va_get (D := (dC, dI)) (ci := 7) (v := .int iM_setMany) (C := RX7) (T := TX7) (N := 48) hx hb hts inX7 hown hK hP 0 rfl rfl 40 (by decide) (hts _ wd_1181) (fun _ h9 => h9) rfl dX7_leavesOf_30 ?_
    refine lv_aload_n hx hb dX7_leavesOf_33 rfl (lv_at hl 0 rfl) ?_
    refine va_get (D := (dC, dI)) (ci := 7) (v := .ref rM_often) (C := RX7) (T := TX7) (N := 48) hx hb hts inX7 hown hK hP 0 rfl rfl 39 (by decide) (hts _ wd_169) (fun _ h9 => h9) rfl dX7_leavesOf_34 ?_
    refine lv_iload_n hx hb dX7_leavesOf_37 rfl (lv_at hl 1 rfl) ?_
    refine va_iald hx hb hK hP 1 0 rfl rfl (ti_in rfl (by omega) (by omega)) dX7_leavesOf_38 ?_
    refine lv_topi (fun x_2717 ex_2717 => ?_)
    have hG := hG.trans (lt_eq ex_2717)
    have kx_2717 : (fM_often p0.toNatClampNeg).toInt = x_2717.toInt := by rw [ex_2717]
    have cx_2717 := kx_2717
    refine lv_isub hx hb dX7_leavesOf_39 ?_
    refine lv_topi (fun x_2718 ex_2718 => ?_)
    have hG := hG.trans (lt_eq ex_2718)
    exact W.iret hx hb hr (fun t ht hW => ⟨⟨_, 0, rfl, ⟨⟨trivial, trivial⟩, hG⟩, Bw.to (hP.sub [0, 1] rfl) (hD.sub [0, 1] (by decide) rfl) (hK.sub [0] rfl) ht hW⟩, hS.F ht⟩) hS.2.2 dX7_leavesOf_40
  · skip
    have hG := hG.trans (if_neg c_2716)
    have gc_2716 := ti_nle c_2716 rfl rfl
    refine lv_aload_n hx hb dX7_leavesOf_20 rfl (lv_at hl 0 rfl) ?_
    refine va_get (D := (dC, dI)) (ci := 7) (v := .ref rM_often) (C := RX7) (T := TX7) (N := 48) hx hb hts inX7 hown hK hP 0 rfl rfl 39 (by decide) (hts _ wd_169) (fun _ h9 => h9) rfl dX7_leavesOf_21 ?_
    refine lv_iload_n hx hb dX7_leavesOf_24 rfl (lv_at hl 1 rfl) ?_
    refine va_iald hx hb hK hP 1 0 rfl rfl (ti_in rfl (by omega) (by omega)) dX7_leavesOf_25 ?_
    refine lv_topi (fun x_2719 ex_2719 => ?_)
    have hG := hG.trans (lt_eq ex_2719)
    have kx_2719 : (fM_often p0.toNatClampNeg).toInt = x_2719.toInt := by rw [ex_2719]
    have cx_2719 := kx_2719
    refine lv_goto (tgt := 40) hx hb dX7_leavesOf_26 (by decide) ?_
    exact W.iret hx hb hr (fun t ht hW => ⟨⟨_, 0, rfl, ⟨⟨trivial, trivial⟩, hG⟩, Bw.to (hP.sub [0, 1] rfl) (hD.sub [0, 1] (by decide) rfl) (hK.sub [0] rfl) ht hW⟩, hS.F ht⟩) hS.2.2 dX7_leavesOf_40
set_option maxHeartbeats 4000000 in
set_option maxRecDepth 100000 in
theorem tX7_askedFirst (l : Launch) (dC : Nat → ClassId) (dI : Nat → Nat → Nat) (sz : Nat) (oM : Nat) (iM_thrown : Int32) (rM_tape : Nat) (iM_taped : Int32) (iM_size : Int32) (iM_at : Int32) (iM_end : Int32) (iM_token : Int32) (iM_whole : Int32) (iM_nameSize : Int32) (iM_fault : Int32) (iM_place : Int32) (iM_trouble : Int32) (rM_letters : Nat) (iM_failed : Int32) (iM_hasCourt : Int32) (rM_r : Nat) (fM_r : Nat → Int32) (kM_r : ClassId) (rM_fresh : Nat) (rM_told : Nat) (fM_told : Nat → Int32) (kM_told : ClassId) (rM_read : Nat) (rM_st : Nat) (rM_undone : Nat) (rM_kept : Nat) (iM_undos : Int32) (iM_images : Int32) (rM_fresher : Nat) (iM_fresherSize : Int32) (iM_scale : Int32) (iM_night : Int32) (rM_heardRow : Nat) (rM_cutRow : Nat) (iM_breaths : Int32) (iM_cutMany : Int32) (iM_allBreaths : Int32) (rM_trial : Nat) (fM_trial : Nat → Int32) (kM_trial : ClassId) (rM_words : Nat) (iM_fewestBreaths : Int32) (iM_orderMany : Int32) (iM_orderSum : Int32) (iM_leastOrder : Int32) (rM_often : Nat) (fM_often : Nat → Int32) (kM_often : ClassId) (iM_setMany : Int32) (iM_someOf : Int32) (iM_allOf : Int32) (iM_allWeight : Int64) (iM_enoughWeight : Int64) (iM_worthSum : Int64) (iM_firstRest : Int32) (iM_leastDrawn : Int32) (b_iM_taped : 0 ≤ iM_taped.toInt ∧ iM_taped.toInt ≤ 900) (b_iM_size : 0 ≤ iM_size.toInt ∧ iM_size.toInt ≤ 900) (b_iM_end : 0 ≤ iM_end.toInt ∧ iM_end.toInt ≤ 900) (b_iM_failed : 0 ≤ iM_failed.toInt ∧ iM_failed.toInt ≤ 1) (b_iM_hasCourt : 0 ≤ iM_hasCourt.toInt ∧ iM_hasCourt.toInt ≤ 1) (b_iM_undos : 0 ≤ iM_undos.toInt ∧ iM_undos.toInt ≤ 16) (b_iM_images : 0 ≤ iM_images.toInt ∧ iM_images.toInt ≤ 3) (b_iM_scale : 1 ≤ iM_scale.toInt ∧ iM_scale.toInt ≤ 1296) (b_iM_breaths : 0 ≤ iM_breaths.toInt ∧ iM_breaths.toInt ≤ 399) (b_iM_cutMany : 0 ≤ iM_cutMany.toInt ∧ iM_cutMany.toInt ≤ 399) (r_R : ROk fM_r) (r_C : iM_hasCourt.toInt ≤ 0 ∨ (1 ≤ (fM_r 1).toInt ∧ 0 ≤ (fM_r 6).toInt ∧ (fM_r 6).toInt < (fM_r 1).toInt)) (r_told : RowOk fM_r fM_told) (hth : 0 ≤ (fM_r 6).toInt ∧ (fM_r 6).toInt < (fM_r 1).toInt) : Met l yX7_askedFirst (Cond.code yX7_askedFirst cX7_askedFirst 3 (some .int) :: wG) ({ frames := 24, cells := 0, slots := 0, locals := 630 }) (va_Pc [.ref oM] (Pw dC dI sz [(oc7 oM iM_thrown rM_tape iM_taped iM_size iM_at iM_end iM_token iM_whole iM_nameSize iM_fault iM_place iM_trouble rM_letters iM_failed iM_hasCourt rM_r rM_fresh rM_told rM_read rM_st rM_undone rM_kept iM_undos iM_images rM_fresher iM_fresherSize iM_scale iM_night rM_heardRow rM_cutRow iM_breaths iM_cutMany iM_allBreaths rM_trial rM_words iM_fewestBreaths iM_orderMany iM_orderSum iM_leastOrder rM_often iM_setMany iM_someOf iM_allOf iM_allWeight iM_enoughWeight iM_worthSum iM_firstRest iM_leastDrawn), (arI rM_r kM_r 287 fM_r), (arI rM_told kM_told 90 fM_told), (arI rM_trial kM_trial 90 fM_trial), (arI rM_often kM_often 4 fM_often)] [(kM_r, .int), (kM_told, .int), (kM_trial, .int), (kM_often, .int)])) (va_Qi (fun (r : Int32) (u : Nat) => (True ∧ ((-2) ≤ r.toInt ∧ r.toInt ≤ 3)) ∧ r = Int32.ofNat u) (fun (u : Nat) (t : State) => ∃ (niM_setMany : Int32) (niM_someOf : Int32) (niM_allOf : Int32) (nfM_trial : Nat → Int32) (nfM_often : Nat → Int32), (PX7_askedFirst fM_r fM_told iM_scale iM_night fM_trial fM_often = (Int32.ofNat u, niM_setMany, niM_someOf, niM_allOf, nfM_trial, nfM_often)) ∧ Bw dC dI (va_A [(oc7 oM iM_thrown rM_tape iM_taped iM_size iM_at iM_end iM_token iM_whole iM_nameSize iM_fault iM_place iM_trouble rM_letters iM_failed iM_hasCourt rM_r rM_fresh rM_told rM_read rM_st rM_undone rM_kept iM_undos iM_images rM_fresher iM_fresherSize iM_scale iM_night rM_heardRow rM_cutRow iM_breaths iM_cutMany iM_allBreaths rM_trial rM_words iM_fewestBreaths iM_orderMany iM_orderSum iM_leastOrder rM_often iM_setMany iM_someOf iM_allOf iM_allWeight iM_enoughWeight iM_worthSum iM_firstRest iM_leastDrawn), (arI rM_r kM_r 287 fM_r), (arI rM_told kM_told 90 fM_told), (arI rM_trial kM_trial 90 fM_trial), (arI rM_often kM_often 4 fM_often)] sz) [(oc7 oM iM_thrown rM_tape iM_taped iM_size iM_at iM_end iM_token iM_whole iM_nameSize iM_fault iM_place iM_trouble rM_letters iM_failed iM_hasCourt rM_r rM_fresh rM_told rM_read rM_st rM_undone rM_kept iM_undos iM_images rM_fresher iM_fresherSize iM_scale iM_night rM_heardRow rM_cutRow iM_breaths iM_cutMany iM_allBreaths rM_trial rM_words iM_fewestBreaths iM_orderMany iM_orderSum iM_leastOrder rM_often niM_setMany niM_someOf niM_allOf iM_allWeight iM_enoughWeight iM_worthSum iM_firstRest iM_leastDrawn), (arI rM_r kM_r 287 fM_r), (arI rM_told kM_told 90 fM_told), (arI rM_trial kM_trial 90 nfM_trial), (arI rM_often kM_often 4 nfM_often)] [(kM_r, .int), (kM_told, .int), (kM_trial, .int), (kM_often, .int)] t) (va_A [(oc7 oM iM_thrown rM_tape iM_taped iM_size iM_at iM_end iM_token iM_whole iM_nameSize iM_fault iM_place iM_trouble rM_letters iM_failed iM_hasCourt rM_r rM_fresh rM_told rM_read rM_st rM_undone rM_kept iM_undos iM_images rM_fresher iM_fresherSize iM_scale iM_night rM_heardRow rM_cutRow iM_breaths iM_cutMany iM_allBreaths rM_trial rM_words iM_fewestBreaths iM_orderMany iM_orderSum iM_leastOrder rM_often iM_setMany iM_someOf iM_allOf iM_allWeight iM_enoughWeight iM_worthSum iM_firstRest iM_leastDrawn), (arI rM_r kM_r 287 fM_r), (arI rM_told kM_told 90 fM_told), (arI rM_trial kM_trial 90 fM_trial), (arI rM_often kM_often 4 fM_often)] sz)) 0 0 (va_A [(oc7 oM iM_thrown rM_tape iM_taped iM_size iM_at iM_end iM_token iM_whole iM_nameSize iM_fault iM_place iM_trouble rM_letters iM_failed iM_hasCourt rM_r rM_fresh rM_told rM_read rM_st rM_undone rM_kept iM_undos iM_images rM_fresher iM_fresherSize iM_scale iM_night rM_heardRow rM_cutRow iM_breaths iM_cutMany iM_allBreaths rM_trial rM_words iM_fewestBreaths iM_orderMany iM_orderSum iM_leastOrder rM_often iM_setMany iM_someOf iM_allOf iM_allWeight iM_enoughWeight iM_worthSum iM_firstRest iM_leastDrawn), (arI rM_r kM_r 287 fM_r), (arI rM_told kM_told 90 fM_told), (arI rM_trial kM_trial 90 fM_trial), (arI rM_often kM_often 4 fM_often)] sz) := by
  refine Met.ofW (cc := cX7_askedFirst) (maxL := 3) (ret := (some .int)) (by decide) rfl ?_
  intro p e s m args below meth c s₁ B hml hv
  obtain ⟨rfl, hsz, hP, hK, hD0, hE⟩ := hv
  have hx := B.exec
  have hb := B.bytes
  have hr := B.returns
  have hts : ∀ w ∈ wG, w.before ([.ref oM] : List Value).toArray s = true := fun w h => atoms_spec (ws := Cond.code yX7_askedFirst cX7_askedFirst 3 (some .int) :: wG) B.pre w (List.mem_cons_of_mem _ h)
  have hown : s.vm.findClass RX7 = some m.cls := findClass_of_methodNamed B.named
  have hlocks := B.notSynchronized
  subst hsz
  have hD := hD0.self (sz := s.heap.size)
  generalize hAe : va_A [(oc7 oM iM_thrown rM_tape iM_taped iM_size iM_at iM_end iM_token iM_whole iM_nameSize iM_fault iM_place iM_trouble rM_letters iM_failed iM_hasCourt rM_r rM_fresh rM_told rM_read rM_st rM_undone rM_kept iM_undos iM_images rM_fresher iM_fresherSize iM_scale iM_night rM_heardRow rM_cutRow iM_breaths iM_cutMany iM_allBreaths rM_trial rM_words iM_fewestBreaths iM_orderMany iM_orderSum iM_leastOrder rM_often iM_setMany iM_someOf iM_allOf iM_allWeight iM_enoughWeight iM_worthSum iM_firstRest iM_leastDrawn), (arI rM_r kM_r 287 fM_r), (arI rM_told kM_told 90 fM_told), (arI rM_trial kM_trial 90 fM_trial), (arI rM_often kM_often 4 fM_often)] s.heap.size = A at hD hE ⊢
  have hA : ∀ q : Nat, s.heap.size ≤ q → A q := fun q h => by rw [← hAe]; exact Or.inr h
  have hS : va_S A s.heap s.heap [] := va_S.rf
  have hl := lv_entry ([.ref oM]) (n := 3) (Nat.le_of_ble_eq_true rfl)
  rw [lg_entry_eq]
  generalize (lg_sl ([.ref oM]) ++ List.replicate (3 - (lg_sl ([.ref oM])).length) Slot.unset).toArray = ls at hl ⊢
  have hl : lv_has ls 3 [(0, .ref oM)] := hl
  have hG := PX7_askedFirst_eq fM_r fM_told iM_scale iM_night fM_trial fM_often
  have s_slips := r_R.slips
  have s_nodes := r_R.nodes
  have s_uns := r_R.uns
  refine lv_aload_n hx hb dX7_askedFirst_0 rfl (lv_at hl 0 rfl) ?_
  refine lv_iconst (v := (-1)) hx hb dX7_askedFirst_1 (by decide) ?_
  have hFc := va_free (wc := [(oc7 oM iM_thrown rM_tape iM_taped iM_size iM_at iM_end iM_token iM_whole iM_nameSize iM_fault iM_place iM_trouble rM_letters iM_failed iM_hasCourt rM_r rM_fresh rM_told rM_read rM_st rM_undone rM_kept iM_undos iM_images rM_fresher iM_fresherSize iM_scale iM_night rM_heardRow rM_cutRow iM_breaths iM_cutMany iM_allBreaths rM_trial rM_words iM_fewestBreaths iM_orderMany iM_orderSum iM_leastOrder rM_often iM_setMany iM_someOf iM_allOf iM_allWeight iM_enoughWeight iM_worthSum iM_firstRest iM_leastDrawn), (arI rM_r kM_r 287 fM_r), (arI rM_told kM_told 90 fM_told), (arI rM_trial kM_trial 90 fM_trial), (arI rM_often kM_often 4 fM_often)]) hD hS hA [0, 1, 2, 3, 4] rfl
  refine va_calli (va_runV (As := [.int (-1)]) (rest := []) ⟨hx, hb, hml, hown, hts⟩ (tX7_seekSets l dC dI _ oM iM_thrown rM_tape iM_taped iM_size iM_at iM_end iM_token iM_whole iM_nameSize iM_fault iM_place iM_trouble rM_letters iM_failed iM_hasCourt rM_r fM_r kM_r rM_fresh rM_told fM_told kM_told rM_read rM_st rM_undone rM_kept iM_undos iM_images rM_fresher iM_fresherSize iM_scale iM_night rM_heardRow rM_cutRow iM_breaths iM_cutMany iM_allBreaths rM_trial fM_trial kM_trial rM_words iM_fewestBreaths iM_orderMany iM_orderSum iM_leastOrder rM_often fM_often kM_often iM_setMany iM_someOf iM_allOf iM_allWeight iM_enoughWeight iM_worthSum iM_firstRest iM_leastDrawn (-1) (by first | omega | decide) (by first | omega | decide) (by first | omega | decide) (by first | omega | decide) (by first | omega | decide) (by first | omega | decide) (by first | omega | decide) (by first | omega | decide) (by first | omega | decide) (by first | omega | decide) (by assumption) (by assumption) (by assumption) (by first | omega | decide | assumption | (have q0 := kc_m1; have q1 := kc_0; have q2 := kc_1; omega) | (intro h; exact absurd h (by decide)))) (cwV 1 hts (wd_V wd_1182 wd_1183 wd_1184 wd_5 (wd_c wd_1185)) rfl rfl rfl (by decide +kernel) ⟨Nat.le_of_ble_eq_true rfl, Nat.le_of_ble_eq_true rfl⟩) ⟨Pw.fb, va_recv hK hP (ci := 7) (q0 := 0) rfl rfl, fun U hU hW => Pw.to (hP.sub [0, 1, 2, 3, 4] rfl) (hD.sub [0, 1, 2, 3, 4] (by decide) rfl) (hK.sub [0, 1, 2, 3] rfl) hE hS hFc hU hW⟩ rfl rfl hl.1 rfl (lv_room (Nat.le_of_ble_eq_true rfl)) dX7_askedFirst_2 ⟨Nat.le_of_ble_eq_true rfl, Nat.le_of_ble_eq_true rfl⟩) hS (fun q _ h => hFc q h) hFc (fun r u t H locs ht hvm hw hB hz1 hk1 hS => ?_)
  have hru9 := hw.2
  have hw := hw.1
  obtain ⟨x_2739, x_2740, x_2741, f_2742, f_2743, e_x_2739_0, hB⟩ := hB
  obtain ⟨hP, hD, hK⟩ := Bw.go (ws' := [(oc7 oM iM_thrown rM_tape iM_taped iM_size iM_at iM_end iM_token iM_whole iM_nameSize iM_fault iM_place iM_trouble rM_letters iM_failed iM_hasCourt rM_r rM_fresh rM_told rM_read rM_st rM_undone rM_kept iM_undos iM_images rM_fresher iM_fresherSize iM_scale iM_night rM_heardRow rM_cutRow iM_breaths iM_cutMany iM_allBreaths rM_trial rM_words iM_fewestBreaths iM_orderMany iM_orderSum iM_leastOrder rM_often x_2739 x_2740 x_2741 iM_allWeight iM_enoughWeight iM_worthSum iM_firstRest iM_leastDrawn), (arI rM_r kM_r 287 fM_r), (arI rM_told kM_told 90 fM_told), (arI rM_trial kM_trial 90 f_2742), (arI rM_often kM_often 4 f_2743)]) (tys' := [(kM_r, .int), (kM_told, .int), (kM_trial, .int), (kM_often, .int)]) hB rfl ht hvm hP hD hK [0, 1, 2, 3, 4] [] rfl (by decide) (by decide) [] hk1 hFc rfl rfl rfl
  clear hz1 hk1 hvm ht hB
  have rg_x_2739 := fb_rng x_2739
  have rg_x_2740 := fb_rng x_2740
  have rg_x_2741 := fb_rng x_2741
  rw [← hru9] at e_x_2739_0
  obtain ⟨x_2744, rfl⟩ : ∃ z, z = r := ⟨_, rfl⟩
  have hG := hG.trans (un6_eq e_x_2739_0)
  have rg_x_2744 := fb_rng x_2744
  refine lv_pop hx hb dX7_askedFirst_5 rfl ?_
  refine lv_bipush (v := (-2)) hx hb dX7_askedFirst_6 (by decide) ?_
  refine lv_istore_n (lv' := [(1, .int (-2)), (0, .ref oM)]) hx hb dX7_askedFirst_8 rfl hl (by decide) rfl (fun ls hl => ?_)
  refine lv_iconst (v := 0) hx hb dX7_askedFirst_9 (by decide) ?_
  refine lv_istore_n (lv' := [(2, .int 0), (1, .int (-2)), (0, .ref oM)]) hx hb dX7_askedFirst_10 rfl hl (by decide) rfl (fun ls hl => ?_)
  have hl := lv_sub hl (l' := [(2, .int 0), (1, .int (-2)), (0, .ref oM)]) [0, 1, 2] rfl
  have key_n_2747 : ∀ (n_2747 : Nat) (z_2745 : Int32) (z_2746 : Int32) (H : Heap) (locs : List Loc) (ls : Array Slot), (0 ≤ z_2745.toInt ∧ z_2745.toInt ≤ 2147483647) → ((-2) ≤ z_2746.toInt ∧ z_2746.toInt ≤ 3) → (2147483647 - z_2745.toInt).toNat < n_2747 → (PX7_askedFirst fM_r fM_told iM_scale iM_night fM_trial fM_often = HX7_askedFirst_0 fM_r x_2739 x_2740 x_2741 f_2742 f_2743 n_2747 z_2745 z_2746) → va_P (dC, dI) vwCl [(oc7 oM iM_thrown rM_tape iM_taped iM_size iM_at iM_end iM_token iM_whole iM_nameSize iM_fault iM_place iM_trouble rM_letters iM_failed iM_hasCourt rM_r rM_fresh rM_told rM_read rM_st rM_undone rM_kept iM_undos iM_images rM_fresher iM_fresherSize iM_scale iM_night rM_heardRow rM_cutRow iM_breaths iM_cutMany iM_allBreaths rM_trial rM_words iM_fewestBreaths iM_orderMany iM_orderSum iM_leastOrder rM_often x_2739 x_2740 x_2741 iM_allWeight iM_enoughWeight iM_worthSum iM_firstRest iM_leastDrawn), (arI rM_r kM_r 287 fM_r), (arI rM_told kM_told 90 fM_told), (arI rM_trial kM_trial 90 f_2742), (arI rM_often kM_often 4 f_2743)] H → va_D A [(oc7 oM iM_thrown rM_tape iM_taped iM_size iM_at iM_end iM_token iM_whole iM_nameSize iM_fault iM_place iM_trouble rM_letters iM_failed iM_hasCourt rM_r rM_fresh rM_told rM_read rM_st rM_undone rM_kept iM_undos iM_images rM_fresher iM_fresherSize iM_scale iM_night rM_heardRow rM_cutRow iM_breaths iM_cutMany iM_allBreaths rM_trial rM_words iM_fewestBreaths iM_orderMany iM_orderSum iM_leastOrder rM_often x_2739 x_2740 x_2741 iM_allWeight iM_enoughWeight iM_worthSum iM_firstRest iM_leastDrawn), (arI rM_r kM_r 287 fM_r), (arI rM_told kM_told 90 fM_told), (arI rM_trial kM_trial 90 f_2742), (arI rM_often kM_often 4 f_2743)] → va_S A s.heap H locs → lv_has ls 3 [(2, .int z_2745), (1, .int z_2746), (0, .ref oM)] → W p l e (headSpec (Cond.code yX7_askedFirst cX7_askedFirst 3 (some .int) :: wG) ({ frames := 24, cells := 0, slots := 0, locals := 630 })).room s m ([.ref oM] : List Value).toArray below meth c H locs 0 0 (MQ below (va_Qi (fun (r : Int32) (u : Nat) => (True ∧ ((-2) ≤ r.toInt ∧ r.toInt ≤ 3)) ∧ r = Int32.ofNat u) (fun (u : Nat) (t : State) => ∃ (niM_setMany : Int32) (niM_someOf : Int32) (niM_allOf : Int32) (nfM_trial : Nat → Int32) (nfM_often : Nat → Int32), (PX7_askedFirst fM_r fM_told iM_scale iM_night fM_trial fM_often = (Int32.ofNat u, niM_setMany, niM_someOf, niM_allOf, nfM_trial, nfM_often)) ∧ Bw dC dI A [(oc7 oM iM_thrown rM_tape iM_taped iM_size iM_at iM_end iM_token iM_whole iM_nameSize iM_fault iM_place iM_trouble rM_letters iM_failed iM_hasCourt rM_r rM_fresh rM_told rM_read rM_st rM_undone rM_kept iM_undos iM_images rM_fresher iM_fresherSize iM_scale iM_night rM_heardRow rM_cutRow iM_breaths iM_cutMany iM_allBreaths rM_trial rM_words iM_fewestBreaths iM_orderMany iM_orderSum iM_leastOrder rM_often niM_setMany niM_someOf niM_allOf iM_allWeight iM_enoughWeight iM_worthSum iM_firstRest iM_leastDrawn), (arI rM_r kM_r 287 fM_r), (arI rM_told kM_told 90 fM_told), (arI rM_trial kM_trial 90 nfM_trial), (arI rM_often kM_often 4 nfM_often)] [(kM_r, .int), (kM_told, .int), (kM_trial, .int), (kM_often, .int)] t) A) ([.ref oM] : List Value).toArray s 0 0 A) (F0 m 11 ls []) := by
    intro n_2747
    induction n_2747 with
    | zero => intro z_2745 z_2746 H locs ls hi0_n_2747 hi1_n_2747 hm; exact absurd hm (by omega)
    | succ n_2747 ih_n_2747 =>
      intro z_2745 z_2746 H locs ls hi0_n_2747 hi1_n_2747 hm hG hP hD hS hl
      have hG := hG.trans (HX7_askedFirst_0_eq _ _ _ _ _ _ _ _ _)
      have rg_z_2745 := fb_rng z_2745
      have rg_z_2746 := fb_rng z_2746
      refine lv_iload_n hx hb dX7_askedFirst_11 rfl (lv_at hl 0 rfl) ?_
      refine lv_aload_n hx hb dX7_askedFirst_12 rfl (lv_at hl 2 rfl) ?_
      refine va_get (D := (dC, dI)) (ci := 7) (v := .ref rM_r) (C := RX7) (T := TX7) (N := 48) hx hb hts inX7 hown hK hP 0 rfl rfl 15 (by decide) (hts _ wd_155) (fun _ h9 => h9) rfl dX7_askedFirst_13 ?_
      refine lv_iconst (v := 3) hx hb dX7_askedFirst_16 (by decide) ?_
      refine va_iald hx hb hK hP 1 0 rfl rfl (by unfold vp_in; decide) dX7_askedFirst_17 ?_
      refine lv_topi (fun x_2748 ex_2748 => ?_)
      have hG := hG.trans (lt_eq ex_2748)
      have rg_x_2748 := fb_rng x_2748
      have cx_2748 : (fM_r 3).toInt = x_2748.toInt := congrArg Int32.toInt (show fM_r 3 = x_2748 from ex_2748.symm)
      have sx_2748 := r_R.uns
      refine lv_icmp_ge (tgt := 53) hx hb dX7_askedFirst_18 (by decide) (fun c_2749 => ?_) (fun c_2749 => ?_)
      · skip
        have hG := hG.trans (if_pos c_2749)
        have gc_2749 := ti_le c_2749 rfl rfl
        refine lv_iload_n hx hb dX7_askedFirst_53 rfl (lv_at hl 1 rfl) ?_
        exact W.iret hx hb hr (fun t ht hW => ⟨⟨_, (cI z_2746), rfl, ⟨⟨trivial, (by omega)⟩, (cI_of z_2746)⟩, ⟨x_2739, x_2740, x_2741, f_2742, f_2743, (cI_tup hG), Bw.to (hP.sub [0, 1, 2, 3, 4] rfl) (hD.sub [0, 1, 2, 3, 4] (by decide) rfl) (hK.sub [0, 1, 2, 3] rfl) ht hW⟩⟩, hS.F ht⟩) hS.2.2 dX7_askedFirst_54
      · skip
        have hG := hG.trans (if_neg c_2749)
        have gc_2749 := ti_nle c_2749 rfl rfl
        refine lv_aload_n hx hb dX7_askedFirst_21 rfl (lv_at hl 2 rfl) ?_
        refine va_get (D := (dC, dI)) (ci := 7) (v := .int x_2739) (C := RX7) (T := TX7) (N := 48) hx hb hts inX7 hown hK hP 0 rfl rfl 40 (by decide) (hts _ wd_1181) (fun _ h9 => h9) rfl dX7_askedFirst_22 ?_
        refine lv_if_le (tgt := 53) hx hb dX7_askedFirst_25 (by decide) (fun c_2750 => ?_) (fun c_2750 => ?_)
        · skip
          have hG := hG.trans (if_pos c_2750)
          have gc_2750 := ti_le c_2750 rfl kc_0
          refine lv_iload_n hx hb dX7_askedFirst_53 rfl (lv_at hl 1 rfl) ?_
          exact W.iret hx hb hr (fun t ht hW => ⟨⟨_, (cI z_2746), rfl, ⟨⟨trivial, (by omega)⟩, (cI_of z_2746)⟩, ⟨x_2739, x_2740, x_2741, f_2742, f_2743, (cI_tup hG), Bw.to (hP.sub [0, 1, 2, 3, 4] rfl) (hD.sub [0, 1, 2, 3, 4] (by decide) rfl) (hK.sub [0, 1, 2, 3] rfl) ht hW⟩⟩, hS.F ht⟩) hS.2.2 dX7_askedFirst_54
        · skip
          have hG := hG.trans (if_neg c_2750)
          have gc_2750 := ti_nle c_2750 rfl kc_0
          refine lv_iload_n hx hb dX7_askedFirst_28 rfl (lv_at hl 1 rfl) ?_
          refine lv_if_lt (tgt := 45) hx hb dX7_askedFirst_29 (by decide) (fun c_2751 => ?_) (fun c_2751 => ?_)
          · skip
            have hG := hG.trans (if_pos c_2751)
            have gc_2751 := ti_lt c_2751 rfl kc_0
            refine lv_iload_n hx hb dX7_askedFirst_45 rfl (lv_at hl 0 rfl) ?_
            refine lv_istore_n (lv' := [(1, .int z_2745), (2, .int z_2745), (0, .ref oM)]) hx hb dX7_askedFirst_46 rfl hl (by decide) rfl (fun ls hl => ?_)
            obtain ⟨x_2752, ex_2752⟩ : ∃ z : Int32, z = z_2745 + Int32.ofInt 1 := ⟨_, rfl⟩
            have hG := hG.trans (lt_eq ex_2752)
            have vx_2752 : x_2752.toInt = z_2745.toInt + 1 := by have q := ti_add (y := 1) ex_2752 rfl kc_1 (by omega) (by omega); omega
            refine lv_iinc (v := x_2752) (lv' := [(2, .int x_2752), (1, .int z_2745), (0, .ref oM)]) hx hb dX7_askedFirst_47 hl (k := 1) rfl ex_2752.symm (by decide) rfl (fun ls hl => ?_)
            refine lv_goto (tgt := 11) hx hb dX7_askedFirst_50 (by decide) ?_
            exact ih_n_2747 x_2752 z_2745 _ _ _  (by first | omega | decide | assumption) (by first | omega | decide | assumption) (by omega) hG (hP.sub [0, 1, 2, 3, 4] rfl) (hD.sub [0, 1, 2, 3, 4] (by decide) rfl) hS (lv_sub hl [0, 1, 2] rfl)
          · skip
            have hG := hG.trans (if_neg c_2751)
            have gc_2751 := ti_nlt c_2751 rfl kc_0
            refine lv_aload_n hx hb dX7_askedFirst_32 rfl (lv_at hl 2 rfl) ?_
            refine lv_iload_n hx hb dX7_askedFirst_33 rfl (lv_at hl 0 rfl) ?_
            have hFc := va_free (wc := [(oc7 oM iM_thrown rM_tape iM_taped iM_size iM_at iM_end iM_token iM_whole iM_nameSize iM_fault iM_place iM_trouble rM_letters iM_failed iM_hasCourt rM_r rM_fresh rM_told rM_read rM_st rM_undone rM_kept iM_undos iM_images rM_fresher iM_fresherSize iM_scale iM_night rM_heardRow rM_cutRow iM_breaths iM_cutMany iM_allBreaths rM_trial rM_words iM_fewestBreaths iM_orderMany iM_orderSum iM_leastOrder rM_often x_2739 x_2740 x_2741 iM_allWeight iM_enoughWeight iM_worthSum iM_firstRest iM_leastDrawn), (arI rM_often kM_often 4 f_2743)]) hD hS hA [0, 4] rfl
            refine va_calli (va_runV (As := [.int z_2745]) (rest := []) ⟨hx, hb, hml, hown, hts⟩ (tX7_leavesOf l dC dI _ oM iM_thrown rM_tape iM_taped iM_size iM_at iM_end iM_token iM_whole iM_nameSize iM_fault iM_place iM_trouble rM_letters iM_failed iM_hasCourt rM_r rM_fresh rM_told rM_read rM_st rM_undone rM_kept iM_undos iM_images rM_fresher iM_fresherSize iM_scale iM_night rM_heardRow rM_cutRow iM_breaths iM_cutMany iM_allBreaths rM_trial rM_words iM_fewestBreaths iM_orderMany iM_orderSum iM_leastOrder rM_often f_2743 kM_often x_2739 x_2740 x_2741 iM_allWeight iM_enoughWeight iM_worthSum iM_firstRest iM_leastDrawn z_2745 (by first | omega | decide) (by first | omega | decide) (by first | omega | decide) (by first | omega | decide) (by first | omega | decide) (by first | omega | decide) (by first | omega | decide) (by first | omega | decide) (by first | omega | decide) (by first | omega | decide) (by first | omega | decide | assumption | (have q0 := kc_0; have q1 := kc_1; omega) | (intro h; exact absurd h (by decide)))) (cwV 1 hts (wd_V wd_1242 wd_1243 wd_1244 wd_5 (wd_c wd_1245)) rfl rfl rfl (by decide +kernel) ⟨Nat.le_of_ble_eq_true rfl, Nat.le_of_ble_eq_true rfl⟩) ⟨Pw.fb, va_recv hK hP (ci := 7) (q0 := 0) rfl rfl, fun U hU hW => Pw.to (hP.sub [0, 4] rfl) (hD.sub [0, 4] (by decide) rfl) (hK.sub [3] rfl) hE hS hFc hU hW⟩ rfl rfl hl.1 rfl (lv_room (Nat.le_of_ble_eq_true rfl)) dX7_askedFirst_34 ⟨Nat.le_of_ble_eq_true rfl, Nat.le_of_ble_eq_true rfl⟩) hS (fun q _ h => hFc q h) hFc (fun r u t H locs ht hvm hw hB hz1 hk1 hS => ?_)
            have hru9 := hw.2
            have hw := hw.1
            obtain ⟨hP, hD, hK⟩ := Bw.go (ws' := [(arI rM_r kM_r 287 fM_r), (arI rM_told kM_told 90 fM_told), (arI rM_trial kM_trial 90 f_2742), (oc7 oM iM_thrown rM_tape iM_taped iM_size iM_at iM_end iM_token iM_whole iM_nameSize iM_fault iM_place iM_trouble rM_letters iM_failed iM_hasCourt rM_r rM_fresh rM_told rM_read rM_st rM_undone rM_kept iM_undos iM_images rM_fresher iM_fresherSize iM_scale iM_night rM_heardRow rM_cutRow iM_breaths iM_cutMany iM_allBreaths rM_trial rM_words iM_fewestBreaths iM_orderMany iM_orderSum iM_leastOrder rM_often x_2739 x_2740 x_2741 iM_allWeight iM_enoughWeight iM_worthSum iM_firstRest iM_leastDrawn), (arI rM_often kM_often 4 f_2743)]) (tys' := [(kM_r, .int), (kM_told, .int), (kM_trial, .int), (kM_often, .int)]) hB rfl ht hvm hP hD hK [0, 4] [1, 2, 3] rfl (by decide) (by decide) [0, 1, 2] hk1 hFc rfl rfl rfl
            clear hz1 hk1 hvm ht hB
            obtain ⟨x_2753, rfl⟩ : ∃ z, z = r := ⟨_, rfl⟩
            have hG := hG.trans (lt_eq hru9.symm)
            have rg_x_2753 := fb_rng x_2753
            refine lv_aload_n hx hb dX7_askedFirst_37 rfl (lv_at hl 2 rfl) ?_
            refine lv_iload_n hx hb dX7_askedFirst_38 rfl (lv_at hl 1 rfl) ?_
            have hFc := va_free (wc := [(oc7 oM iM_thrown rM_tape iM_taped iM_size iM_at iM_end iM_token iM_whole iM_nameSize iM_fault iM_place iM_trouble rM_letters iM_failed iM_hasCourt rM_r rM_fresh rM_told rM_read rM_st rM_undone rM_kept iM_undos iM_images rM_fresher iM_fresherSize iM_scale iM_night rM_heardRow rM_cutRow iM_breaths iM_cutMany iM_allBreaths rM_trial rM_words iM_fewestBreaths iM_orderMany iM_orderSum iM_leastOrder rM_often x_2739 x_2740 x_2741 iM_allWeight iM_enoughWeight iM_worthSum iM_firstRest iM_leastDrawn), (arI rM_often kM_often 4 f_2743)]) hD hS hA [3, 4] rfl
            refine va_calli (va_runV (As := [.int z_2746]) (rest := [.int x_2753]) ⟨hx, hb, hml, hown, hts⟩ (tX7_leavesOf l dC dI _ oM iM_thrown rM_tape iM_taped iM_size iM_at iM_end iM_token iM_whole iM_nameSize iM_fault iM_place iM_trouble rM_letters iM_failed iM_hasCourt rM_r rM_fresh rM_told rM_read rM_st rM_undone rM_kept iM_undos iM_images rM_fresher iM_fresherSize iM_scale iM_night rM_heardRow rM_cutRow iM_breaths iM_cutMany iM_allBreaths rM_trial rM_words iM_fewestBreaths iM_orderMany iM_orderSum iM_leastOrder rM_often f_2743 kM_often x_2739 x_2740 x_2741 iM_allWeight iM_enoughWeight iM_worthSum iM_firstRest iM_leastDrawn z_2746 (by first | omega | decide) (by first | omega | decide) (by first | omega | decide) (by first | omega | decide) (by first | omega | decide) (by first | omega | decide) (by first | omega | decide) (by first | omega | decide) (by first | omega | decide) (by first | omega | decide) (by first | omega | decide | assumption | (have q0 := kc_0; have q1 := kc_1; omega) | (intro h; exact absurd h (by decide)))) (cwV 1 hts (wd_V wd_1242 wd_1243 wd_1244 wd_5 (wd_c wd_1245)) rfl rfl rfl (by decide +kernel) ⟨Nat.le_of_ble_eq_true rfl, Nat.le_of_ble_eq_true rfl⟩) ⟨Pw.fb, va_recv hK hP (ci := 7) (q0 := 3) rfl rfl, fun U hU hW => Pw.to (hP.sub [3, 4] rfl) (hD.sub [3, 4] (by decide) rfl) (hK.sub [3] rfl) hE hS hFc hU hW⟩ rfl rfl hl.1 rfl (lv_room (Nat.le_of_ble_eq_true rfl)) dX7_askedFirst_39 ⟨Nat.le_of_ble_eq_true rfl, Nat.le_of_ble_eq_true rfl⟩) hS (fun q _ h => hFc q h) hFc (fun r u t H locs ht hvm hw hB hz1 hk1 hS => ?_)
            have hru9 := hw.2
            have hw := hw.1
            obtain ⟨hP, hD, hK⟩ := Bw.go (ws' := [(arI rM_r kM_r 287 fM_r), (arI rM_told kM_told 90 fM_told), (arI rM_trial kM_trial 90 f_2742), (oc7 oM iM_thrown rM_tape iM_taped iM_size iM_at iM_end iM_token iM_whole iM_nameSize iM_fault iM_place iM_trouble rM_letters iM_failed iM_hasCourt rM_r rM_fresh rM_told rM_read rM_st rM_undone rM_kept iM_undos iM_images rM_fresher iM_fresherSize iM_scale iM_night rM_heardRow rM_cutRow iM_breaths iM_cutMany iM_allBreaths rM_trial rM_words iM_fewestBreaths iM_orderMany iM_orderSum iM_leastOrder rM_often x_2739 x_2740 x_2741 iM_allWeight iM_enoughWeight iM_worthSum iM_firstRest iM_leastDrawn), (arI rM_often kM_often 4 f_2743)]) (tys' := [(kM_r, .int), (kM_told, .int), (kM_trial, .int), (kM_often, .int)]) hB rfl ht hvm hP hD hK [3, 4] [0, 1, 2] rfl (by decide) (by decide) [0, 1, 2] hk1 hFc rfl rfl rfl
            clear hz1 hk1 hvm ht hB
            obtain ⟨x_2754, rfl⟩ : ∃ z, z = r := ⟨_, rfl⟩
            have hG := hG.trans (lt_eq hru9.symm)
            have rg_x_2754 := fb_rng x_2754
            refine lv_icmp_ge (tgt := 47) hx hb dX7_askedFirst_42 (by decide) (fun c_2755 => ?_) (fun c_2755 => ?_)
            · skip
              have hG := hG.trans (if_pos c_2755)
              have gc_2755 := ti_le c_2755 rfl rfl
              obtain ⟨x_2756, ex_2756⟩ : ∃ z : Int32, z = z_2745 + Int32.ofInt 1 := ⟨_, rfl⟩
              have hG := hG.trans (lt_eq ex_2756)
              have vx_2756 : x_2756.toInt = z_2745.toInt + 1 := by have q := ti_add (y := 1) ex_2756 rfl kc_1 (by omega) (by omega); omega
              refine lv_iinc (v := x_2756) (lv' := [(2, .int x_2756), (1, .int z_2746), (0, .ref oM)]) hx hb dX7_askedFirst_47 hl (k := 0) rfl ex_2756.symm (by decide) rfl (fun ls hl => ?_)
              refine lv_goto (tgt := 11) hx hb dX7_askedFirst_50 (by decide) ?_
              exact ih_n_2747 x_2756 z_2746 _ _ _  (by first | omega | decide | assumption) (by first | omega | decide | assumption) (by omega) hG (hP.sub [3, 0, 1, 2, 4] rfl) (hD.sub [3, 0, 1, 2, 4] (by decide) rfl) hS (lv_sub hl [0, 1, 2] rfl)
            · skip
              have hG := hG.trans (if_neg c_2755)
              have gc_2755 := ti_nle c_2755 rfl rfl
              refine lv_iload_n hx hb dX7_askedFirst_45 rfl (lv_at hl 0 rfl) ?_
              refine lv_istore_n (lv' := [(1, .int z_2745), (2, .int z_2745), (0, .ref oM)]) hx hb dX7_askedFirst_46 rfl hl (by decide) rfl (fun ls hl => ?_)
              obtain ⟨x_2757, ex_2757⟩ : ∃ z : Int32, z = z_2745 + Int32.ofInt 1 := ⟨_, rfl⟩
              have hG := hG.trans (lt_eq ex_2757)
              have vx_2757 : x_2757.toInt = z_2745.toInt + 1 := by have q := ti_add (y := 1) ex_2757 rfl kc_1 (by omega) (by omega); omega
              refine lv_iinc (v := x_2757) (lv' := [(2, .int x_2757), (1, .int z_2745), (0, .ref oM)]) hx hb dX7_askedFirst_47 hl (k := 1) rfl ex_2757.symm (by decide) rfl (fun ls hl => ?_)
              refine lv_goto (tgt := 11) hx hb dX7_askedFirst_50 (by decide) ?_
              exact ih_n_2747 x_2757 z_2745 _ _ _  (by first | omega | decide | assumption) (by first | omega | decide | assumption) (by omega) hG (hP.sub [3, 0, 1, 2, 4] rfl) (hD.sub [3, 0, 1, 2, 4] (by decide) rfl) hS (lv_sub hl [0, 1, 2] rfl)
  exact key_n_2747 (((2147483647 - (0 : Int32).toInt).toNat) + 1) 0 (-2) _ _ _  (by first | omega | decide | assumption | (have q0 := kc_m2; have q1 := kc_0; have q2 := kc_1; omega)) (by first | omega | decide | assumption | (have q0 := kc_m2; have q1 := kc_0; have q2 := kc_1; omega)) (by omega) hG hP hD hS hl
set_option maxHeartbeats 4000000 in
set_option maxRecDepth 100000 in
theorem tX7_fits (l : Launch) (dC : Nat → ClassId) (dI : Nat → Nat → Nat) (sz : Nat) (oM : Nat) (iM_thrown : Int32) (rM_tape : Nat) (iM_taped : Int32) (iM_size : Int32) (iM_at : Int32) (iM_end : Int32) (iM_token : Int32) (iM_whole : Int32) (iM_nameSize : Int32) (iM_fault : Int32) (iM_place : Int32) (iM_trouble : Int32) (rM_letters : Nat) (iM_failed : Int32) (iM_hasCourt : Int32) (rM_r : Nat) (fM_r : Nat → Int32) (kM_r : ClassId) (rM_fresh : Nat) (rM_told : Nat) (fM_told : Nat → Int32) (kM_told : ClassId) (rM_read : Nat) (rM_st : Nat) (rM_undone : Nat) (rM_kept : Nat) (iM_undos : Int32) (iM_images : Int32) (rM_fresher : Nat) (iM_fresherSize : Int32) (iM_scale : Int32) (iM_night : Int32) (rM_heardRow : Nat) (rM_cutRow : Nat) (iM_breaths : Int32) (iM_cutMany : Int32) (iM_allBreaths : Int32) (rM_trial : Nat) (fM_trial : Nat → Int32) (kM_trial : ClassId) (rM_words : Nat) (iM_fewestBreaths : Int32) (iM_orderMany : Int32) (iM_orderSum : Int32) (iM_leastOrder : Int32) (rM_often : Nat) (fM_often : Nat → Int32) (kM_often : ClassId) (iM_setMany : Int32) (iM_someOf : Int32) (iM_allOf : Int32) (iM_allWeight : Int64) (iM_enoughWeight : Int64) (iM_worthSum : Int64) (iM_firstRest : Int32) (iM_leastDrawn : Int32) (b_iM_taped : 0 ≤ iM_taped.toInt ∧ iM_taped.toInt ≤ 900) (b_iM_size : 0 ≤ iM_size.toInt ∧ iM_size.toInt ≤ 900) (b_iM_end : 0 ≤ iM_end.toInt ∧ iM_end.toInt ≤ 900) (b_iM_failed : 0 ≤ iM_failed.toInt ∧ iM_failed.toInt ≤ 1) (b_iM_hasCourt : 0 ≤ iM_hasCourt.toInt ∧ iM_hasCourt.toInt ≤ 1) (b_iM_undos : 0 ≤ iM_undos.toInt ∧ iM_undos.toInt ≤ 16) (b_iM_images : 0 ≤ iM_images.toInt ∧ iM_images.toInt ≤ 3) (b_iM_scale : 1 ≤ iM_scale.toInt ∧ iM_scale.toInt ≤ 1296) (b_iM_breaths : 0 ≤ iM_breaths.toInt ∧ iM_breaths.toInt ≤ 399) (b_iM_cutMany : 0 ≤ iM_cutMany.toInt ∧ iM_cutMany.toInt ≤ 399) (r_R : ROk fM_r) (r_C : iM_hasCourt.toInt ≤ 0 ∨ (1 ≤ (fM_r 1).toInt ∧ 0 ≤ (fM_r 6).toInt ∧ (fM_r 6).toInt < (fM_r 1).toInt)) (r_told : RowOk fM_r fM_told)  : Met l yX7_fits (Cond.code yX7_fits cX7_fits 1 (some .int) :: wG) ({ frames := 24, cells := 0, slots := 0, locals := 630 }) (va_Pc [.ref oM] (Pw dC dI sz [(oc7 oM iM_thrown rM_tape iM_taped iM_size iM_at iM_end iM_token iM_whole iM_nameSize iM_fault iM_place iM_trouble rM_letters iM_failed iM_hasCourt rM_r rM_fresh rM_told rM_read rM_st rM_undone rM_kept iM_undos iM_images rM_fresher iM_fresherSize iM_scale iM_night rM_heardRow rM_cutRow iM_breaths iM_cutMany iM_allBreaths rM_trial rM_words iM_fewestBreaths iM_orderMany iM_orderSum iM_leastOrder rM_often iM_setMany iM_someOf iM_allOf iM_allWeight iM_enoughWeight iM_worthSum iM_firstRest iM_leastDrawn), (arI rM_r kM_r 287 fM_r), (arI rM_told kM_told 90 fM_told), (arI rM_trial kM_trial 90 fM_trial), (arI rM_often kM_often 4 fM_often)] [(kM_r, .int), (kM_told, .int), (kM_trial, .int), (kM_often, .int)])) (va_Qi (fun (r : Int32) (u : Nat) => (True ∧ True) ∧ r = Int32.ofNat u) (fun (u : Nat) (t : State) => ∃ (niM_thrown : Int32) (niM_trouble : Int32) (niM_setMany : Int32) (niM_someOf : Int32) (niM_allOf : Int32) (nfM_trial : Nat → Int32) (nfM_often : Nat → Int32), (PX7_fits iM_hasCourt fM_r fM_told iM_scale iM_night fM_trial fM_often iM_setMany iM_someOf iM_allOf = (Int32.ofNat u, niM_thrown, niM_trouble, niM_setMany, niM_someOf, niM_allOf, nfM_trial, nfM_often)) ∧ Bw dC dI (va_A [(oc7 oM iM_thrown rM_tape iM_taped iM_size iM_at iM_end iM_token iM_whole iM_nameSize iM_fault iM_place iM_trouble rM_letters iM_failed iM_hasCourt rM_r rM_fresh rM_told rM_read rM_st rM_undone rM_kept iM_undos iM_images rM_fresher iM_fresherSize iM_scale iM_night rM_heardRow rM_cutRow iM_breaths iM_cutMany iM_allBreaths rM_trial rM_words iM_fewestBreaths iM_orderMany iM_orderSum iM_leastOrder rM_often iM_setMany iM_someOf iM_allOf iM_allWeight iM_enoughWeight iM_worthSum iM_firstRest iM_leastDrawn), (arI rM_r kM_r 287 fM_r), (arI rM_told kM_told 90 fM_told), (arI rM_trial kM_trial 90 fM_trial), (arI rM_often kM_often 4 fM_often)] sz) [(oc7 oM niM_thrown rM_tape iM_taped iM_size iM_at iM_end iM_token iM_whole iM_nameSize iM_fault iM_place niM_trouble rM_letters iM_failed iM_hasCourt rM_r rM_fresh rM_told rM_read rM_st rM_undone rM_kept iM_undos iM_images rM_fresher iM_fresherSize iM_scale iM_night rM_heardRow rM_cutRow iM_breaths iM_cutMany iM_allBreaths rM_trial rM_words iM_fewestBreaths iM_orderMany iM_orderSum iM_leastOrder rM_often niM_setMany niM_someOf niM_allOf iM_allWeight iM_enoughWeight iM_worthSum iM_firstRest iM_leastDrawn), (arI rM_r kM_r 287 fM_r), (arI rM_told kM_told 90 fM_told), (arI rM_trial kM_trial 90 nfM_trial), (arI rM_often kM_often 4 nfM_often)] [(kM_r, .int), (kM_told, .int), (kM_trial, .int), (kM_often, .int)] t) (va_A [(oc7 oM iM_thrown rM_tape iM_taped iM_size iM_at iM_end iM_token iM_whole iM_nameSize iM_fault iM_place iM_trouble rM_letters iM_failed iM_hasCourt rM_r rM_fresh rM_told rM_read rM_st rM_undone rM_kept iM_undos iM_images rM_fresher iM_fresherSize iM_scale iM_night rM_heardRow rM_cutRow iM_breaths iM_cutMany iM_allBreaths rM_trial rM_words iM_fewestBreaths iM_orderMany iM_orderSum iM_leastOrder rM_often iM_setMany iM_someOf iM_allOf iM_allWeight iM_enoughWeight iM_worthSum iM_firstRest iM_leastDrawn), (arI rM_r kM_r 287 fM_r), (arI rM_told kM_told 90 fM_told), (arI rM_trial kM_trial 90 fM_trial), (arI rM_often kM_often 4 fM_often)] sz)) 0 0 (va_A [(oc7 oM iM_thrown rM_tape iM_taped iM_size iM_at iM_end iM_token iM_whole iM_nameSize iM_fault iM_place iM_trouble rM_letters iM_failed iM_hasCourt rM_r rM_fresh rM_told rM_read rM_st rM_undone rM_kept iM_undos iM_images rM_fresher iM_fresherSize iM_scale iM_night rM_heardRow rM_cutRow iM_breaths iM_cutMany iM_allBreaths rM_trial rM_words iM_fewestBreaths iM_orderMany iM_orderSum iM_leastOrder rM_often iM_setMany iM_someOf iM_allOf iM_allWeight iM_enoughWeight iM_worthSum iM_firstRest iM_leastDrawn), (arI rM_r kM_r 287 fM_r), (arI rM_told kM_told 90 fM_told), (arI rM_trial kM_trial 90 fM_trial), (arI rM_often kM_often 4 fM_often)] sz) := by
  refine Met.ofW (cc := cX7_fits) (maxL := 1) (ret := (some .int)) (by decide) rfl ?_
  intro p e s m args below meth c s₁ B hml hv
  obtain ⟨rfl, hsz, hP, hK, hD0, hE⟩ := hv
  have hx := B.exec
  have hb := B.bytes
  have hr := B.returns
  have hts : ∀ w ∈ wG, w.before ([.ref oM] : List Value).toArray s = true := fun w h => atoms_spec (ws := Cond.code yX7_fits cX7_fits 1 (some .int) :: wG) B.pre w (List.mem_cons_of_mem _ h)
  have hown : s.vm.findClass RX7 = some m.cls := findClass_of_methodNamed B.named
  have hlocks := B.notSynchronized
  subst hsz
  have hD := hD0.self (sz := s.heap.size)
  generalize hAe : va_A [(oc7 oM iM_thrown rM_tape iM_taped iM_size iM_at iM_end iM_token iM_whole iM_nameSize iM_fault iM_place iM_trouble rM_letters iM_failed iM_hasCourt rM_r rM_fresh rM_told rM_read rM_st rM_undone rM_kept iM_undos iM_images rM_fresher iM_fresherSize iM_scale iM_night rM_heardRow rM_cutRow iM_breaths iM_cutMany iM_allBreaths rM_trial rM_words iM_fewestBreaths iM_orderMany iM_orderSum iM_leastOrder rM_often iM_setMany iM_someOf iM_allOf iM_allWeight iM_enoughWeight iM_worthSum iM_firstRest iM_leastDrawn), (arI rM_r kM_r 287 fM_r), (arI rM_told kM_told 90 fM_told), (arI rM_trial kM_trial 90 fM_trial), (arI rM_often kM_often 4 fM_often)] s.heap.size = A at hD hE ⊢
  have hA : ∀ q : Nat, s.heap.size ≤ q → A q := fun q h => by rw [← hAe]; exact Or.inr h
  have hS : va_S A s.heap s.heap [] := va_S.rf
  have hl := lv_entry ([.ref oM]) (n := 1) (Nat.le_of_ble_eq_true rfl)
  rw [lg_entry_eq]
  generalize (lg_sl ([.ref oM]) ++ List.replicate (1 - (lg_sl ([.ref oM])).length) Slot.unset).toArray = ls at hl ⊢
  have hl : lv_has ls 1 [(0, .ref oM)] := hl
  have hG := PX7_fits_eq iM_hasCourt fM_r fM_told iM_scale iM_night fM_trial fM_often iM_setMany iM_someOf iM_allOf
  have s_slips := r_R.slips
  have s_nodes := r_R.nodes
  have s_uns := r_R.uns
  refine lv_aload_n hx hb dX7_fits_0 rfl (lv_at hl 0 rfl) ?_
  have hFc := va_free (wc := [(oc7 oM iM_thrown rM_tape iM_taped iM_size iM_at iM_end iM_token iM_whole iM_nameSize iM_fault iM_place iM_trouble rM_letters iM_failed iM_hasCourt rM_r rM_fresh rM_told rM_read rM_st rM_undone rM_kept iM_undos iM_images rM_fresher iM_fresherSize iM_scale iM_night rM_heardRow rM_cutRow iM_breaths iM_cutMany iM_allBreaths rM_trial rM_words iM_fewestBreaths iM_orderMany iM_orderSum iM_leastOrder rM_often iM_setMany iM_someOf iM_allOf iM_allWeight iM_enoughWeight iM_worthSum iM_firstRest iM_leastDrawn)]) hD hS hA [0] rfl
  refine va_callv (va_runV (As := []) (rest := []) ⟨hx, hb, hml, hown, hts⟩ (tX7_good l dC dI _ oM iM_thrown rM_tape iM_taped iM_size iM_at iM_end iM_token iM_whole iM_nameSize iM_fault iM_place iM_trouble rM_letters iM_failed iM_hasCourt rM_r rM_fresh rM_told rM_read rM_st rM_undone rM_kept iM_undos iM_images rM_fresher iM_fresherSize iM_scale iM_night rM_heardRow rM_cutRow iM_breaths iM_cutMany iM_allBreaths rM_trial rM_words iM_fewestBreaths iM_orderMany iM_orderSum iM_leastOrder rM_often iM_setMany iM_someOf iM_allOf iM_allWeight iM_enoughWeight iM_worthSum iM_firstRest iM_leastDrawn (by first | omega | decide) (by first | omega | decide) (by first | omega | decide) (by first | omega | decide) (by first | omega | decide) (by first | omega | decide) (by first | omega | decide) (by first | omega | decide) (by first | omega | decide) (by first | omega | decide)) (cwV 0 hts (wd_V wd_388 wd_389 wd_390 wd_5 (wd_c wd_391)) rfl rfl rfl (by decide +kernel) ⟨Nat.le_of_ble_eq_true rfl, Nat.le_of_ble_eq_true rfl⟩) ⟨Pw.fb, va_recv hK hP (ci := 7) (q0 := 0) rfl rfl, fun U hU hW => Pw.to (hP.sub [0] rfl) (hD.sub [0] (by decide) rfl) (hK.sub [] rfl) hE hS hFc hU hW⟩ rfl rfl hl.1 rfl (lv_room (Nat.le_of_ble_eq_true rfl)) dX7_fits_1 ⟨Nat.le_of_ble_eq_true rfl, Nat.le_of_ble_eq_true rfl⟩) hS (fun q _ h => hFc q h) hFc (fun u t H locs ht hvm hw hB hz1 hk1 hS => ?_)
  obtain ⟨x_2772, x_2773, b_x_2772, b_x_2773, e_x_2772_0, hB⟩ := hB
  obtain ⟨hP, hD, hK⟩ := Bw.go (ws' := [(arI rM_r kM_r 287 fM_r), (arI rM_told kM_told 90 fM_told), (arI rM_trial kM_trial 90 fM_trial), (arI rM_often kM_often 4 fM_often), (oc7 oM x_2772 rM_tape iM_taped iM_size iM_at iM_end iM_token iM_whole iM_nameSize iM_fault iM_place x_2773 rM_letters iM_failed iM_hasCourt rM_r rM_fresh rM_told rM_read rM_st rM_undone rM_kept iM_undos iM_images rM_fresher iM_fresherSize iM_scale iM_night rM_heardRow rM_cutRow iM_breaths iM_cutMany iM_allBreaths rM_trial rM_words iM_fewestBreaths iM_orderMany iM_orderSum iM_leastOrder rM_often iM_setMany iM_someOf iM_allOf iM_allWeight iM_enoughWeight iM_worthSum iM_firstRest iM_leastDrawn)]) (tys' := [(kM_r, .int), (kM_told, .int), (kM_trial, .int), (kM_often, .int)]) hB rfl ht hvm hP hD hK [0] [1, 2, 3, 4] rfl (by decide) (by decide) [0, 1, 2, 3] hk1 hFc rfl rfl rfl
  clear hz1 hk1 hvm ht hB
  have hG := hG.trans (un2_eq e_x_2772_0)
  refine lv_aload_n hx hb dX7_fits_4 rfl (lv_at hl 0 rfl) ?_
  rcases (id r_C) with r_C0 | r_C1
  · skip
    refine va_get (D := (dC, dI)) (ci := 7) (v := .int iM_hasCourt) (C := RX7) (T := TX7) (N := 48) hx hb hts inX7 hown hK hP 4 rfl rfl 14 (by decide) (hts _ wd_385) (fun _ h9 => h9) rfl dX7_fits_5 ?_
    refine lv_if_ne (tgt := 17) hx hb dX7_fits_8 (by decide) (fun c_2774 => ?_) (fun c_2774 => ?_)
    · skip
      have hG := hG.trans (if_neg c_2774)
      have gc_2774 := ti_ne c_2774 rfl kc_0
      exfalso; clear hG; omega
    · skip
      have hG := hG.trans (if_pos c_2774)
      have gc_2774 := ti_eq c_2774 rfl kc_0
      refine lv_aload_n hx hb dX7_fits_11 rfl (lv_at hl 0 rfl) ?_
      refine lv_iconst (v := 1) hx hb dX7_fits_12 (by decide) ?_
      have hFc := va_free (wc := [(oc7 oM x_2772 rM_tape iM_taped iM_size iM_at iM_end iM_token iM_whole iM_nameSize iM_fault iM_place x_2773 rM_letters iM_failed iM_hasCourt rM_r rM_fresh rM_told rM_read rM_st rM_undone rM_kept iM_undos iM_images rM_fresher iM_fresherSize iM_scale iM_night rM_heardRow rM_cutRow iM_breaths iM_cutMany iM_allBreaths rM_trial rM_words iM_fewestBreaths iM_orderMany iM_orderSum iM_leastOrder rM_often iM_setMany iM_someOf iM_allOf iM_allWeight iM_enoughWeight iM_worthSum iM_firstRest iM_leastDrawn)]) hD hS hA [4] rfl
      refine va_calli (va_runV (As := [.int 1]) (rest := []) ⟨hx, hb, hml, hown, hts⟩ (tX7_no l dC dI _ oM x_2772 rM_tape iM_taped iM_size iM_at iM_end iM_token iM_whole iM_nameSize iM_fault iM_place x_2773 rM_letters iM_failed iM_hasCourt rM_r rM_fresh rM_told rM_read rM_st rM_undone rM_kept iM_undos iM_images rM_fresher iM_fresherSize iM_scale iM_night rM_heardRow rM_cutRow iM_breaths iM_cutMany iM_allBreaths rM_trial rM_words iM_fewestBreaths iM_orderMany iM_orderSum iM_leastOrder rM_often iM_setMany iM_someOf iM_allOf iM_allWeight iM_enoughWeight iM_worthSum iM_firstRest iM_leastDrawn 1 (by first | omega | decide) (by first | omega | decide) (by first | omega | decide) (by first | omega | decide) (by first | omega | decide) (by first | omega | decide) (by first | omega | decide) (by first | omega | decide) (by first | omega | decide) (by first | omega | decide)) (cwV 1 hts (wd_V wd_396 wd_397 wd_398 wd_5 (wd_c wd_399)) rfl rfl rfl (by decide +kernel) ⟨Nat.le_of_ble_eq_true rfl, Nat.le_of_ble_eq_true rfl⟩) ⟨Pw.fb, va_recv hK hP (ci := 7) (q0 := 4) rfl rfl, fun U hU hW => Pw.to (hP.sub [4] rfl) (hD.sub [4] (by decide) rfl) (hK.sub [] rfl) hE hS hFc hU hW⟩ rfl rfl hl.1 rfl (lv_room (Nat.le_of_ble_eq_true rfl)) dX7_fits_13 ⟨Nat.le_of_ble_eq_true rfl, Nat.le_of_ble_eq_true rfl⟩) hS (fun q _ h => hFc q h) hFc (fun r u t H locs ht hvm hw hB hz1 hk1 hS => ?_)
      have hru9 := hw.2
      have hw := hw.1
      obtain ⟨x_2775, e_x_2775_0, hB⟩ := hB
      obtain ⟨hP, hD, hK⟩ := Bw.go (ws' := [(arI rM_r kM_r 287 fM_r), (arI rM_told kM_told 90 fM_told), (arI rM_trial kM_trial 90 fM_trial), (arI rM_often kM_often 4 fM_often), (oc7 oM x_2772 rM_tape iM_taped iM_size iM_at iM_end iM_token iM_whole iM_nameSize iM_fault iM_place x_2775 rM_letters iM_failed iM_hasCourt rM_r rM_fresh rM_told rM_read rM_st rM_undone rM_kept iM_undos iM_images rM_fresher iM_fresherSize iM_scale iM_night rM_heardRow rM_cutRow iM_breaths iM_cutMany iM_allBreaths rM_trial rM_words iM_fewestBreaths iM_orderMany iM_orderSum iM_leastOrder rM_often iM_setMany iM_someOf iM_allOf iM_allWeight iM_enoughWeight iM_worthSum iM_firstRest iM_leastDrawn)]) (tys' := [(kM_r, .int), (kM_told, .int), (kM_trial, .int), (kM_often, .int)]) hB rfl ht hvm hP hD hK [4] [0, 1, 2, 3] rfl (by decide) (by decide) [0, 1, 2, 3] hk1 hFc rfl rfl rfl
      clear hz1 hk1 hvm ht hB
      rw [← hru9] at e_x_2775_0
      obtain ⟨x_2776, rfl⟩ : ∃ z, z = r := ⟨_, rfl⟩
      have hG := hG.trans (un2_eq e_x_2775_0)
      exact W.iret hx hb hr (fun t ht hW => ⟨⟨_, (cI x_2776), rfl, ⟨⟨trivial, trivial⟩, (cI_of x_2776)⟩, ⟨x_2772, x_2775, iM_setMany, iM_someOf, iM_allOf, fM_trial, fM_often, (cI_tup hG), Bw.to (hP.sub [4, 0, 1, 2, 3] rfl) (hD.sub [4, 0, 1, 2, 3] (by decide) rfl) (hK.sub [0, 1, 2, 3] rfl) ht hW⟩⟩, hS.F ht⟩) hS.2.2 dX7_fits_16
  · skip
    refine va_get (D := (dC, dI)) (ci := 7) (v := .int iM_hasCourt) (C := RX7) (T := TX7) (N := 48) hx hb hts inX7 hown hK hP 4 rfl rfl 14 (by decide) (hts _ wd_385) (fun _ h9 => h9) rfl dX7_fits_5 ?_
    refine lv_if_ne (tgt := 17) hx hb dX7_fits_8 (by decide) (fun c_2777 => ?_) (fun c_2777 => ?_)
    · skip
      have hG := hG.trans (if_neg c_2777)
      have gc_2777 := ti_ne c_2777 rfl kc_0
      refine lv_aload_n hx hb dX7_fits_17 rfl (lv_at hl 0 rfl) ?_
      refine lv_iconst (v := (-1)) hx hb dX7_fits_18 (by decide) ?_
      have hFc := va_free (wc := [(oc7 oM x_2772 rM_tape iM_taped iM_size iM_at iM_end iM_token iM_whole iM_nameSize iM_fault iM_place x_2773 rM_letters iM_failed iM_hasCourt rM_r rM_fresh rM_told rM_read rM_st rM_undone rM_kept iM_undos iM_images rM_fresher iM_fresherSize iM_scale iM_night rM_heardRow rM_cutRow iM_breaths iM_cutMany iM_allBreaths rM_trial rM_words iM_fewestBreaths iM_orderMany iM_orderSum iM_leastOrder rM_often iM_setMany iM_someOf iM_allOf iM_allWeight iM_enoughWeight iM_worthSum iM_firstRest iM_leastDrawn), (arI rM_r kM_r 287 fM_r), (arI rM_told kM_told 90 fM_told), (arI rM_trial kM_trial 90 fM_trial), (arI rM_often kM_often 4 fM_often)]) hD hS hA [4, 0, 1, 2, 3] rfl
      refine va_calli (va_runV (As := [.int (-1)]) (rest := []) ⟨hx, hb, hml, hown, hts⟩ (tX7_seekSets l dC dI _ oM x_2772 rM_tape iM_taped iM_size iM_at iM_end iM_token iM_whole iM_nameSize iM_fault iM_place x_2773 rM_letters iM_failed iM_hasCourt rM_r fM_r kM_r rM_fresh rM_told fM_told kM_told rM_read rM_st rM_undone rM_kept iM_undos iM_images rM_fresher iM_fresherSize iM_scale iM_night rM_heardRow rM_cutRow iM_breaths iM_cutMany iM_allBreaths rM_trial fM_trial kM_trial rM_words iM_fewestBreaths iM_orderMany iM_orderSum iM_leastOrder rM_often fM_often kM_often iM_setMany iM_someOf iM_allOf iM_allWeight iM_enoughWeight iM_worthSum iM_firstRest iM_leastDrawn (-1) (by first | omega | decide) (by first | omega | decide) (by first | omega | decide) (by first | omega | decide) (by first | omega | decide) (by first | omega | decide) (by first | omega | decide) (by first | omega | decide) (by first | omega | decide) (by first | omega | decide) (by assumption) (by assumption) (by assumption) (by first | omega | decide | assumption | (have q0 := kc_m1; have q1 := kc_0; have q2 := kc_1; omega) | (intro h; exact absurd h (by decide)))) (cwV 1 hts (wd_V wd_1182 wd_1183 wd_1184 wd_5 (wd_c wd_1185)) rfl rfl rfl (by decide +kernel) ⟨Nat.le_of_ble_eq_true rfl, Nat.le_of_ble_eq_true rfl⟩) ⟨Pw.fb, va_recv hK hP (ci := 7) (q0 := 4) rfl rfl, fun U hU hW => Pw.to (hP.sub [4, 0, 1, 2, 3] rfl) (hD.sub [4, 0, 1, 2, 3] (by decide) rfl) (hK.sub [0, 1, 2, 3] rfl) hE hS hFc hU hW⟩ rfl rfl hl.1 rfl (lv_room (Nat.le_of_ble_eq_true rfl)) dX7_fits_19 ⟨Nat.le_of_ble_eq_true rfl, Nat.le_of_ble_eq_true rfl⟩) hS (fun q _ h => hFc q h) hFc (fun r u t H locs ht hvm hw hB hz1 hk1 hS => ?_)
      have hru9 := hw.2
      have hw := hw.1
      obtain ⟨x_2778, x_2779, x_2780, f_2781, f_2782, e_x_2778_0, hB⟩ := hB
      obtain ⟨hP, hD, hK⟩ := Bw.go (ws' := [(oc7 oM x_2772 rM_tape iM_taped iM_size iM_at iM_end iM_token iM_whole iM_nameSize iM_fault iM_place x_2773 rM_letters iM_failed iM_hasCourt rM_r rM_fresh rM_told rM_read rM_st rM_undone rM_kept iM_undos iM_images rM_fresher iM_fresherSize iM_scale iM_night rM_heardRow rM_cutRow iM_breaths iM_cutMany iM_allBreaths rM_trial rM_words iM_fewestBreaths iM_orderMany iM_orderSum iM_leastOrder rM_often x_2778 x_2779 x_2780 iM_allWeight iM_enoughWeight iM_worthSum iM_firstRest iM_leastDrawn), (arI rM_r kM_r 287 fM_r), (arI rM_told kM_told 90 fM_told), (arI rM_trial kM_trial 90 f_2781), (arI rM_often kM_often 4 f_2782)]) (tys' := [(kM_r, .int), (kM_told, .int), (kM_trial, .int), (kM_often, .int)]) hB rfl ht hvm hP hD hK [4, 0, 1, 2, 3] [] rfl (by decide) (by decide) [] hk1 hFc rfl rfl rfl
      clear hz1 hk1 hvm ht hB
      rw [← hru9] at e_x_2778_0
      obtain ⟨x_2783, rfl⟩ : ∃ z, z = r := ⟨_, rfl⟩
      have hG := hG.trans (un6_eq e_x_2778_0)
      refine lv_pop hx hb dX7_fits_22 rfl ?_
      refine lv_aload_n hx hb dX7_fits_23 rfl (lv_at hl 0 rfl) ?_
      refine va_get (D := (dC, dI)) (ci := 7) (v := .int x_2778) (C := RX7) (T := TX7) (N := 48) hx hb hts inX7 hown hK hP 0 rfl rfl 40 (by decide) (hts _ wd_1181) (fun _ h9 => h9) rfl dX7_fits_24 ?_
      exact W.iret hx hb hr (fun t ht hW => ⟨⟨_, (cI x_2778), rfl, ⟨⟨trivial, trivial⟩, (cI_of x_2778)⟩, ⟨x_2772, x_2773, x_2778, x_2779, x_2780, f_2781, f_2782, (cI_tup hG), Bw.to (hP.sub [0, 1, 2, 3, 4] rfl) (hD.sub [0, 1, 2, 3, 4] (by decide) rfl) (hK.sub [0, 1, 2, 3] rfl) ht hW⟩⟩, hS.F ht⟩) hS.2.2 dX7_fits_27
    · skip
      have hG := hG.trans (if_pos c_2777)
      have gc_2777 := ti_eq c_2777 rfl kc_0
      refine lv_aload_n hx hb dX7_fits_11 rfl (lv_at hl 0 rfl) ?_
      refine lv_iconst (v := 1) hx hb dX7_fits_12 (by decide) ?_
      have hFc := va_free (wc := [(oc7 oM x_2772 rM_tape iM_taped iM_size iM_at iM_end iM_token iM_whole iM_nameSize iM_fault iM_place x_2773 rM_letters iM_failed iM_hasCourt rM_r rM_fresh rM_told rM_read rM_st rM_undone rM_kept iM_undos iM_images rM_fresher iM_fresherSize iM_scale iM_night rM_heardRow rM_cutRow iM_breaths iM_cutMany iM_allBreaths rM_trial rM_words iM_fewestBreaths iM_orderMany iM_orderSum iM_leastOrder rM_often iM_setMany iM_someOf iM_allOf iM_allWeight iM_enoughWeight iM_worthSum iM_firstRest iM_leastDrawn)]) hD hS hA [4] rfl
      refine va_calli (va_runV (As := [.int 1]) (rest := []) ⟨hx, hb, hml, hown, hts⟩ (tX7_no l dC dI _ oM x_2772 rM_tape iM_taped iM_size iM_at iM_end iM_token iM_whole iM_nameSize iM_fault iM_place x_2773 rM_letters iM_failed iM_hasCourt rM_r rM_fresh rM_told rM_read rM_st rM_undone rM_kept iM_undos iM_images rM_fresher iM_fresherSize iM_scale iM_night rM_heardRow rM_cutRow iM_breaths iM_cutMany iM_allBreaths rM_trial rM_words iM_fewestBreaths iM_orderMany iM_orderSum iM_leastOrder rM_often iM_setMany iM_someOf iM_allOf iM_allWeight iM_enoughWeight iM_worthSum iM_firstRest iM_leastDrawn 1 (by first | omega | decide) (by first | omega | decide) (by first | omega | decide) (by first | omega | decide) (by first | omega | decide) (by first | omega | decide) (by first | omega | decide) (by first | omega | decide) (by first | omega | decide) (by first | omega | decide)) (cwV 1 hts (wd_V wd_396 wd_397 wd_398 wd_5 (wd_c wd_399)) rfl rfl rfl (by decide +kernel) ⟨Nat.le_of_ble_eq_true rfl, Nat.le_of_ble_eq_true rfl⟩) ⟨Pw.fb, va_recv hK hP (ci := 7) (q0 := 4) rfl rfl, fun U hU hW => Pw.to (hP.sub [4] rfl) (hD.sub [4] (by decide) rfl) (hK.sub [] rfl) hE hS hFc hU hW⟩ rfl rfl hl.1 rfl (lv_room (Nat.le_of_ble_eq_true rfl)) dX7_fits_13 ⟨Nat.le_of_ble_eq_true rfl, Nat.le_of_ble_eq_true rfl⟩) hS (fun q _ h => hFc q h) hFc (fun r u t H locs ht hvm hw hB hz1 hk1 hS => ?_)
      have hru9 := hw.2
      have hw := hw.1
      obtain ⟨x_2784, e_x_2784_0, hB⟩ := hB
      obtain ⟨hP, hD, hK⟩ := Bw.go (ws' := [(arI rM_r kM_r 287 fM_r), (arI rM_told kM_told 90 fM_told), (arI rM_trial kM_trial 90 fM_trial), (arI rM_often kM_often 4 fM_often), (oc7 oM x_2772 rM_tape iM_taped iM_size iM_at iM_end iM_token iM_whole iM_nameSize iM_fault iM_place x_2784 rM_letters iM_failed iM_hasCourt rM_r rM_fresh rM_told rM_read rM_st rM_undone rM_kept iM_undos iM_images rM_fresher iM_fresherSize iM_scale iM_night rM_heardRow rM_cutRow iM_breaths iM_cutMany iM_allBreaths rM_trial rM_words iM_fewestBreaths iM_orderMany iM_orderSum iM_leastOrder rM_often iM_setMany iM_someOf iM_allOf iM_allWeight iM_enoughWeight iM_worthSum iM_firstRest iM_leastDrawn)]) (tys' := [(kM_r, .int), (kM_told, .int), (kM_trial, .int), (kM_often, .int)]) hB rfl ht hvm hP hD hK [4] [0, 1, 2, 3] rfl (by decide) (by decide) [0, 1, 2, 3] hk1 hFc rfl rfl rfl
      clear hz1 hk1 hvm ht hB
      rw [← hru9] at e_x_2784_0
      obtain ⟨x_2785, rfl⟩ : ∃ z, z = r := ⟨_, rfl⟩
      have hG := hG.trans (un2_eq e_x_2784_0)
      exact W.iret hx hb hr (fun t ht hW => ⟨⟨_, (cI x_2785), rfl, ⟨⟨trivial, trivial⟩, (cI_of x_2785)⟩, ⟨x_2772, x_2784, iM_setMany, iM_someOf, iM_allOf, fM_trial, fM_often, (cI_tup hG), Bw.to (hP.sub [4, 0, 1, 2, 3] rfl) (hD.sub [4, 0, 1, 2, 3] (by decide) rfl) (hK.sub [0, 1, 2, 3] rfl) ht hW⟩⟩, hS.F ht⟩) hS.2.2 dX7_fits_16
set_option maxHeartbeats 4000000 in
set_option maxRecDepth 100000 in
theorem tX7_could (l : Launch) (dC : Nat → ClassId) (dI : Nat → Nat → Nat) (sz : Nat) (oM : Nat) (iM_thrown : Int32) (rM_tape : Nat) (iM_taped : Int32) (iM_size : Int32) (iM_at : Int32) (iM_end : Int32) (iM_token : Int32) (iM_whole : Int32) (iM_nameSize : Int32) (iM_fault : Int32) (iM_place : Int32) (iM_trouble : Int32) (rM_letters : Nat) (iM_failed : Int32) (iM_hasCourt : Int32) (rM_r : Nat) (fM_r : Nat → Int32) (kM_r : ClassId) (rM_fresh : Nat) (rM_told : Nat) (fM_told : Nat → Int32) (kM_told : ClassId) (rM_read : Nat) (rM_st : Nat) (rM_undone : Nat) (rM_kept : Nat) (iM_undos : Int32) (iM_images : Int32) (rM_fresher : Nat) (iM_fresherSize : Int32) (iM_scale : Int32) (iM_night : Int32) (rM_heardRow : Nat) (rM_cutRow : Nat) (iM_breaths : Int32) (iM_cutMany : Int32) (iM_allBreaths : Int32) (rM_trial : Nat) (fM_trial : Nat → Int32) (kM_trial : ClassId) (rM_words : Nat) (iM_fewestBreaths : Int32) (iM_orderMany : Int32) (iM_orderSum : Int32) (iM_leastOrder : Int32) (rM_often : Nat) (fM_often : Nat → Int32) (kM_often : ClassId) (iM_setMany : Int32) (iM_someOf : Int32) (iM_allOf : Int32) (iM_allWeight : Int64) (iM_enoughWeight : Int64) (iM_worthSum : Int64) (iM_firstRest : Int32) (iM_leastDrawn : Int32) (b_iM_taped : 0 ≤ iM_taped.toInt ∧ iM_taped.toInt ≤ 900) (b_iM_size : 0 ≤ iM_size.toInt ∧ iM_size.toInt ≤ 900) (b_iM_end : 0 ≤ iM_end.toInt ∧ iM_end.toInt ≤ 900) (b_iM_failed : 0 ≤ iM_failed.toInt ∧ iM_failed.toInt ≤ 1) (b_iM_hasCourt : 0 ≤ iM_hasCourt.toInt ∧ iM_hasCourt.toInt ≤ 1) (b_iM_undos : 0 ≤ iM_undos.toInt ∧ iM_undos.toInt ≤ 16) (b_iM_images : 0 ≤ iM_images.toInt ∧ iM_images.toInt ≤ 3) (b_iM_scale : 1 ≤ iM_scale.toInt ∧ iM_scale.toInt ≤ 1296) (b_iM_breaths : 0 ≤ iM_breaths.toInt ∧ iM_breaths.toInt ≤ 399) (b_iM_cutMany : 0 ≤ iM_cutMany.toInt ∧ iM_cutMany.toInt ≤ 399) (r_R : ROk fM_r) (r_C : iM_hasCourt.toInt ≤ 0 ∨ (1 ≤ (fM_r 1).toInt ∧ 0 ≤ (fM_r 6).toInt ∧ (fM_r 6).toInt < (fM_r 1).toInt)) (r_told : RowOk fM_r fM_told)  : Met l yX7_could (Cond.code yX7_could cX7_could 1 (some .int) :: wG) ({ frames := 24, cells := 0, slots := 0, locals := 630 }) (va_Pc [.ref oM] (Pw dC dI sz [(oc7 oM iM_thrown rM_tape iM_taped iM_size iM_at iM_end iM_token iM_whole iM_nameSize iM_fault iM_place iM_trouble rM_letters iM_failed iM_hasCourt rM_r rM_fresh rM_told rM_read rM_st rM_undone rM_kept iM_undos iM_images rM_fresher iM_fresherSize iM_scale iM_night rM_heardRow rM_cutRow iM_breaths iM_cutMany iM_allBreaths rM_trial rM_words iM_fewestBreaths iM_orderMany iM_orderSum iM_leastOrder rM_often iM_setMany iM_someOf iM_allOf iM_allWeight iM_enoughWeight iM_worthSum iM_firstRest iM_leastDrawn), (arI rM_r kM_r 287 fM_r), (arI rM_told kM_told 90 fM_told), (arI rM_trial kM_trial 90 fM_trial), (arI rM_often kM_often 4 fM_often)] [(kM_r, .int), (kM_told, .int), (kM_trial, .int), (kM_often, .int)])) (va_Qi (fun (r : Int32) (u : Nat) => (True ∧ True) ∧ r = Int32.ofNat u) (fun (u : Nat) (t : State) => ∃ (niM_thrown : Int32) (niM_trouble : Int32) (niM_setMany : Int32) (niM_someOf : Int32) (niM_allOf : Int32) (nfM_trial : Nat → Int32) (nfM_often : Nat → Int32), (PX7_could iM_hasCourt fM_r fM_told iM_scale iM_night fM_trial fM_often iM_setMany iM_someOf iM_allOf = (Int32.ofNat u, niM_thrown, niM_trouble, niM_setMany, niM_someOf, niM_allOf, nfM_trial, nfM_often)) ∧ Bw dC dI (va_A [(oc7 oM iM_thrown rM_tape iM_taped iM_size iM_at iM_end iM_token iM_whole iM_nameSize iM_fault iM_place iM_trouble rM_letters iM_failed iM_hasCourt rM_r rM_fresh rM_told rM_read rM_st rM_undone rM_kept iM_undos iM_images rM_fresher iM_fresherSize iM_scale iM_night rM_heardRow rM_cutRow iM_breaths iM_cutMany iM_allBreaths rM_trial rM_words iM_fewestBreaths iM_orderMany iM_orderSum iM_leastOrder rM_often iM_setMany iM_someOf iM_allOf iM_allWeight iM_enoughWeight iM_worthSum iM_firstRest iM_leastDrawn), (arI rM_r kM_r 287 fM_r), (arI rM_told kM_told 90 fM_told), (arI rM_trial kM_trial 90 fM_trial), (arI rM_often kM_often 4 fM_often)] sz) [(oc7 oM niM_thrown rM_tape iM_taped iM_size iM_at iM_end iM_token iM_whole iM_nameSize iM_fault iM_place niM_trouble rM_letters iM_failed iM_hasCourt rM_r rM_fresh rM_told rM_read rM_st rM_undone rM_kept iM_undos iM_images rM_fresher iM_fresherSize iM_scale iM_night rM_heardRow rM_cutRow iM_breaths iM_cutMany iM_allBreaths rM_trial rM_words iM_fewestBreaths iM_orderMany iM_orderSum iM_leastOrder rM_often niM_setMany niM_someOf niM_allOf iM_allWeight iM_enoughWeight iM_worthSum iM_firstRest iM_leastDrawn), (arI rM_r kM_r 287 fM_r), (arI rM_told kM_told 90 fM_told), (arI rM_trial kM_trial 90 nfM_trial), (arI rM_often kM_often 4 nfM_often)] [(kM_r, .int), (kM_told, .int), (kM_trial, .int), (kM_often, .int)] t) (va_A [(oc7 oM iM_thrown rM_tape iM_taped iM_size iM_at iM_end iM_token iM_whole iM_nameSize iM_fault iM_place iM_trouble rM_letters iM_failed iM_hasCourt rM_r rM_fresh rM_told rM_read rM_st rM_undone rM_kept iM_undos iM_images rM_fresher iM_fresherSize iM_scale iM_night rM_heardRow rM_cutRow iM_breaths iM_cutMany iM_allBreaths rM_trial rM_words iM_fewestBreaths iM_orderMany iM_orderSum iM_leastOrder rM_often iM_setMany iM_someOf iM_allOf iM_allWeight iM_enoughWeight iM_worthSum iM_firstRest iM_leastDrawn), (arI rM_r kM_r 287 fM_r), (arI rM_told kM_told 90 fM_told), (arI rM_trial kM_trial 90 fM_trial), (arI rM_often kM_often 4 fM_often)] sz)) 0 0 (va_A [(oc7 oM iM_thrown rM_tape iM_taped iM_size iM_at iM_end iM_token iM_whole iM_nameSize iM_fault iM_place iM_trouble rM_letters iM_failed iM_hasCourt rM_r rM_fresh rM_told rM_read rM_st rM_undone rM_kept iM_undos iM_images rM_fresher iM_fresherSize iM_scale iM_night rM_heardRow rM_cutRow iM_breaths iM_cutMany iM_allBreaths rM_trial rM_words iM_fewestBreaths iM_orderMany iM_orderSum iM_leastOrder rM_often iM_setMany iM_someOf iM_allOf iM_allWeight iM_enoughWeight iM_worthSum iM_firstRest iM_leastDrawn), (arI rM_r kM_r 287 fM_r), (arI rM_told kM_told 90 fM_told), (arI rM_trial kM_trial 90 fM_trial), (arI rM_often kM_often 4 fM_often)] sz) := by
  refine Met.ofW (cc := cX7_could) (maxL := 1) (ret := (some .int)) (by decide) rfl ?_
  intro p e s m args below meth c s₁ B hml hv
  obtain ⟨rfl, hsz, hP, hK, hD0, hE⟩ := hv
  have hx := B.exec
  have hb := B.bytes
  have hr := B.returns
  have hts : ∀ w ∈ wG, w.before ([.ref oM] : List Value).toArray s = true := fun w h => atoms_spec (ws := Cond.code yX7_could cX7_could 1 (some .int) :: wG) B.pre w (List.mem_cons_of_mem _ h)
  have hown : s.vm.findClass RX7 = some m.cls := findClass_of_methodNamed B.named
  have hlocks := B.notSynchronized
  subst hsz
  have hD := hD0.self (sz := s.heap.size)
  generalize hAe : va_A [(oc7 oM iM_thrown rM_tape iM_taped iM_size iM_at iM_end iM_token iM_whole iM_nameSize iM_fault iM_place iM_trouble rM_letters iM_failed iM_hasCourt rM_r rM_fresh rM_told rM_read rM_st rM_undone rM_kept iM_undos iM_images rM_fresher iM_fresherSize iM_scale iM_night rM_heardRow rM_cutRow iM_breaths iM_cutMany iM_allBreaths rM_trial rM_words iM_fewestBreaths iM_orderMany iM_orderSum iM_leastOrder rM_often iM_setMany iM_someOf iM_allOf iM_allWeight iM_enoughWeight iM_worthSum iM_firstRest iM_leastDrawn), (arI rM_r kM_r 287 fM_r), (arI rM_told kM_told 90 fM_told), (arI rM_trial kM_trial 90 fM_trial), (arI rM_often kM_often 4 fM_often)] s.heap.size = A at hD hE ⊢
  have hA : ∀ q : Nat, s.heap.size ≤ q → A q := fun q h => by rw [← hAe]; exact Or.inr h
  have hS : va_S A s.heap s.heap [] := va_S.rf
  have hl := lv_entry ([.ref oM]) (n := 1) (Nat.le_of_ble_eq_true rfl)
  rw [lg_entry_eq]
  generalize (lg_sl ([.ref oM]) ++ List.replicate (1 - (lg_sl ([.ref oM])).length) Slot.unset).toArray = ls at hl ⊢
  have hl : lv_has ls 1 [(0, .ref oM)] := hl
  have hG := PX7_could_eq iM_hasCourt fM_r fM_told iM_scale iM_night fM_trial fM_often iM_setMany iM_someOf iM_allOf
  have s_slips := r_R.slips
  have s_nodes := r_R.nodes
  have s_uns := r_R.uns
  refine lv_aload_n hx hb dX7_could_0 rfl (lv_at hl 0 rfl) ?_
  have hFc := va_free (wc := [(oc7 oM iM_thrown rM_tape iM_taped iM_size iM_at iM_end iM_token iM_whole iM_nameSize iM_fault iM_place iM_trouble rM_letters iM_failed iM_hasCourt rM_r rM_fresh rM_told rM_read rM_st rM_undone rM_kept iM_undos iM_images rM_fresher iM_fresherSize iM_scale iM_night rM_heardRow rM_cutRow iM_breaths iM_cutMany iM_allBreaths rM_trial rM_words iM_fewestBreaths iM_orderMany iM_orderSum iM_leastOrder rM_often iM_setMany iM_someOf iM_allOf iM_allWeight iM_enoughWeight iM_worthSum iM_firstRest iM_leastDrawn)]) hD hS hA [0] rfl
  refine va_callv (va_runV (As := []) (rest := []) ⟨hx, hb, hml, hown, hts⟩ (tX7_good l dC dI _ oM iM_thrown rM_tape iM_taped iM_size iM_at iM_end iM_token iM_whole iM_nameSize iM_fault iM_place iM_trouble rM_letters iM_failed iM_hasCourt rM_r rM_fresh rM_told rM_read rM_st rM_undone rM_kept iM_undos iM_images rM_fresher iM_fresherSize iM_scale iM_night rM_heardRow rM_cutRow iM_breaths iM_cutMany iM_allBreaths rM_trial rM_words iM_fewestBreaths iM_orderMany iM_orderSum iM_leastOrder rM_often iM_setMany iM_someOf iM_allOf iM_allWeight iM_enoughWeight iM_worthSum iM_firstRest iM_leastDrawn (by first | omega | decide) (by first | omega | decide) (by first | omega | decide) (by first | omega | decide) (by first | omega | decide) (by first | omega | decide) (by first | omega | decide) (by first | omega | decide) (by first | omega | decide) (by first | omega | decide)) (cwV 0 hts (wd_V wd_388 wd_389 wd_390 wd_5 (wd_c wd_391)) rfl rfl rfl (by decide +kernel) ⟨Nat.le_of_ble_eq_true rfl, Nat.le_of_ble_eq_true rfl⟩) ⟨Pw.fb, va_recv hK hP (ci := 7) (q0 := 0) rfl rfl, fun U hU hW => Pw.to (hP.sub [0] rfl) (hD.sub [0] (by decide) rfl) (hK.sub [] rfl) hE hS hFc hU hW⟩ rfl rfl hl.1 rfl (lv_room (Nat.le_of_ble_eq_true rfl)) dX7_could_1 ⟨Nat.le_of_ble_eq_true rfl, Nat.le_of_ble_eq_true rfl⟩) hS (fun q _ h => hFc q h) hFc (fun u t H locs ht hvm hw hB hz1 hk1 hS => ?_)
  obtain ⟨x_2800, x_2801, b_x_2800, b_x_2801, e_x_2800_0, hB⟩ := hB
  obtain ⟨hP, hD, hK⟩ := Bw.go (ws' := [(arI rM_r kM_r 287 fM_r), (arI rM_told kM_told 90 fM_told), (arI rM_trial kM_trial 90 fM_trial), (arI rM_often kM_often 4 fM_often), (oc7 oM x_2800 rM_tape iM_taped iM_size iM_at iM_end iM_token iM_whole iM_nameSize iM_fault iM_place x_2801 rM_letters iM_failed iM_hasCourt rM_r rM_fresh rM_told rM_read rM_st rM_undone rM_kept iM_undos iM_images rM_fresher iM_fresherSize iM_scale iM_night rM_heardRow rM_cutRow iM_breaths iM_cutMany iM_allBreaths rM_trial rM_words iM_fewestBreaths iM_orderMany iM_orderSum iM_leastOrder rM_often iM_setMany iM_someOf iM_allOf iM_allWeight iM_enoughWeight iM_worthSum iM_firstRest iM_leastDrawn)]) (tys' := [(kM_r, .int), (kM_told, .int), (kM_trial, .int), (kM_often, .int)]) hB rfl ht hvm hP hD hK [0] [1, 2, 3, 4] rfl (by decide) (by decide) [0, 1, 2, 3] hk1 hFc rfl rfl rfl
  clear hz1 hk1 hvm ht hB
  have hG := hG.trans (un2_eq e_x_2800_0)
  refine lv_aload_n hx hb dX7_could_4 rfl (lv_at hl 0 rfl) ?_
  rcases (id r_C) with r_C0 | r_C1
  · skip
    refine va_get (D := (dC, dI)) (ci := 7) (v := .int iM_hasCourt) (C := RX7) (T := TX7) (N := 48) hx hb hts inX7 hown hK hP 4 rfl rfl 14 (by decide) (hts _ wd_385) (fun _ h9 => h9) rfl dX7_could_5 ?_
    refine lv_if_ne (tgt := 17) hx hb dX7_could_8 (by decide) (fun c_2802 => ?_) (fun c_2802 => ?_)
    · skip
      have hG := hG.trans (if_neg c_2802)
      have gc_2802 := ti_ne c_2802 rfl kc_0
      exfalso; clear hG; omega
    · skip
      have hG := hG.trans (if_pos c_2802)
      have gc_2802 := ti_eq c_2802 rfl kc_0
      refine lv_aload_n hx hb dX7_could_11 rfl (lv_at hl 0 rfl) ?_
      refine lv_iconst (v := 1) hx hb dX7_could_12 (by decide) ?_
      have hFc := va_free (wc := [(oc7 oM x_2800 rM_tape iM_taped iM_size iM_at iM_end iM_token iM_whole iM_nameSize iM_fault iM_place x_2801 rM_letters iM_failed iM_hasCourt rM_r rM_fresh rM_told rM_read rM_st rM_undone rM_kept iM_undos iM_images rM_fresher iM_fresherSize iM_scale iM_night rM_heardRow rM_cutRow iM_breaths iM_cutMany iM_allBreaths rM_trial rM_words iM_fewestBreaths iM_orderMany iM_orderSum iM_leastOrder rM_often iM_setMany iM_someOf iM_allOf iM_allWeight iM_enoughWeight iM_worthSum iM_firstRest iM_leastDrawn)]) hD hS hA [4] rfl
      refine va_calli (va_runV (As := [.int 1]) (rest := []) ⟨hx, hb, hml, hown, hts⟩ (tX7_no l dC dI _ oM x_2800 rM_tape iM_taped iM_size iM_at iM_end iM_token iM_whole iM_nameSize iM_fault iM_place x_2801 rM_letters iM_failed iM_hasCourt rM_r rM_fresh rM_told rM_read rM_st rM_undone rM_kept iM_undos iM_images rM_fresher iM_fresherSize iM_scale iM_night rM_heardRow rM_cutRow iM_breaths iM_cutMany iM_allBreaths rM_trial rM_words iM_fewestBreaths iM_orderMany iM_orderSum iM_leastOrder rM_often iM_setMany iM_someOf iM_allOf iM_allWeight iM_enoughWeight iM_worthSum iM_firstRest iM_leastDrawn 1 (by first | omega | decide) (by first | omega | decide) (by first | omega | decide) (by first | omega | decide) (by first | omega | decide) (by first | omega | decide) (by first | omega | decide) (by first | omega | decide) (by first | omega | decide) (by first | omega | decide)) (cwV 1 hts (wd_V wd_396 wd_397 wd_398 wd_5 (wd_c wd_399)) rfl rfl rfl (by decide +kernel) ⟨Nat.le_of_ble_eq_true rfl, Nat.le_of_ble_eq_true rfl⟩) ⟨Pw.fb, va_recv hK hP (ci := 7) (q0 := 4) rfl rfl, fun U hU hW => Pw.to (hP.sub [4] rfl) (hD.sub [4] (by decide) rfl) (hK.sub [] rfl) hE hS hFc hU hW⟩ rfl rfl hl.1 rfl (lv_room (Nat.le_of_ble_eq_true rfl)) dX7_could_13 ⟨Nat.le_of_ble_eq_true rfl, Nat.le_of_ble_eq_true rfl⟩) hS (fun q _ h => hFc q h) hFc (fun r u t H locs ht hvm hw hB hz1 hk1 hS => ?_)
      have hru9 := hw.2
      have hw := hw.1
      obtain ⟨x_2803, e_x_2803_0, hB⟩ := hB
      obtain ⟨hP, hD, hK⟩ := Bw.go (ws' := [(arI rM_r kM_r 287 fM_r), (arI rM_told kM_told 90 fM_told), (arI rM_trial kM_trial 90 fM_trial), (arI rM_often kM_often 4 fM_often), (oc7 oM x_2800 rM_tape iM_taped iM_size iM_at iM_end iM_token iM_whole iM_nameSize iM_fault iM_place x_2803 rM_letters iM_failed iM_hasCourt rM_r rM_fresh rM_told rM_read rM_st rM_undone rM_kept iM_undos iM_images rM_fresher iM_fresherSize iM_scale iM_night rM_heardRow rM_cutRow iM_breaths iM_cutMany iM_allBreaths rM_trial rM_words iM_fewestBreaths iM_orderMany iM_orderSum iM_leastOrder rM_often iM_setMany iM_someOf iM_allOf iM_allWeight iM_enoughWeight iM_worthSum iM_firstRest iM_leastDrawn)]) (tys' := [(kM_r, .int), (kM_told, .int), (kM_trial, .int), (kM_often, .int)]) hB rfl ht hvm hP hD hK [4] [0, 1, 2, 3] rfl (by decide) (by decide) [0, 1, 2, 3] hk1 hFc rfl rfl rfl
      clear hz1 hk1 hvm ht hB
      rw [← hru9] at e_x_2803_0
      obtain ⟨x_2804, rfl⟩ : ∃ z, z = r := ⟨_, rfl⟩
      have hG := hG.trans (un2_eq e_x_2803_0)
      exact W.iret hx hb hr (fun t ht hW => ⟨⟨_, (cI x_2804), rfl, ⟨⟨trivial, trivial⟩, (cI_of x_2804)⟩, ⟨x_2800, x_2803, iM_setMany, iM_someOf, iM_allOf, fM_trial, fM_often, (cI_tup hG), Bw.to (hP.sub [4, 0, 1, 2, 3] rfl) (hD.sub [4, 0, 1, 2, 3] (by decide) rfl) (hK.sub [0, 1, 2, 3] rfl) ht hW⟩⟩, hS.F ht⟩) hS.2.2 dX7_could_16
  · skip
    refine va_get (D := (dC, dI)) (ci := 7) (v := .int iM_hasCourt) (C := RX7) (T := TX7) (N := 48) hx hb hts inX7 hown hK hP 4 rfl rfl 14 (by decide) (hts _ wd_385) (fun _ h9 => h9) rfl dX7_could_5 ?_
    refine lv_if_ne (tgt := 17) hx hb dX7_could_8 (by decide) (fun c_2805 => ?_) (fun c_2805 => ?_)
    · skip
      have hG := hG.trans (if_neg c_2805)
      have gc_2805 := ti_ne c_2805 rfl kc_0
      refine lv_aload_n hx hb dX7_could_17 rfl (lv_at hl 0 rfl) ?_
      refine lv_iconst (v := (-1)) hx hb dX7_could_18 (by decide) ?_
      have hFc := va_free (wc := [(oc7 oM x_2800 rM_tape iM_taped iM_size iM_at iM_end iM_token iM_whole iM_nameSize iM_fault iM_place x_2801 rM_letters iM_failed iM_hasCourt rM_r rM_fresh rM_told rM_read rM_st rM_undone rM_kept iM_undos iM_images rM_fresher iM_fresherSize iM_scale iM_night rM_heardRow rM_cutRow iM_breaths iM_cutMany iM_allBreaths rM_trial rM_words iM_fewestBreaths iM_orderMany iM_orderSum iM_leastOrder rM_often iM_setMany iM_someOf iM_allOf iM_allWeight iM_enoughWeight iM_worthSum iM_firstRest iM_leastDrawn), (arI rM_r kM_r 287 fM_r), (arI rM_told kM_told 90 fM_told), (arI rM_trial kM_trial 90 fM_trial), (arI rM_often kM_often 4 fM_often)]) hD hS hA [4, 0, 1, 2, 3] rfl
      refine va_calli (va_runV (As := [.int (-1)]) (rest := []) ⟨hx, hb, hml, hown, hts⟩ (tX7_seekSets l dC dI _ oM x_2800 rM_tape iM_taped iM_size iM_at iM_end iM_token iM_whole iM_nameSize iM_fault iM_place x_2801 rM_letters iM_failed iM_hasCourt rM_r fM_r kM_r rM_fresh rM_told fM_told kM_told rM_read rM_st rM_undone rM_kept iM_undos iM_images rM_fresher iM_fresherSize iM_scale iM_night rM_heardRow rM_cutRow iM_breaths iM_cutMany iM_allBreaths rM_trial fM_trial kM_trial rM_words iM_fewestBreaths iM_orderMany iM_orderSum iM_leastOrder rM_often fM_often kM_often iM_setMany iM_someOf iM_allOf iM_allWeight iM_enoughWeight iM_worthSum iM_firstRest iM_leastDrawn (-1) (by first | omega | decide) (by first | omega | decide) (by first | omega | decide) (by first | omega | decide) (by first | omega | decide) (by first | omega | decide) (by first | omega | decide) (by first | omega | decide) (by first | omega | decide) (by first | omega | decide) (by assumption) (by assumption) (by assumption) (by first | omega | decide | assumption | (have q0 := kc_m1; have q1 := kc_0; have q2 := kc_1; omega) | (intro h; exact absurd h (by decide)))) (cwV 1 hts (wd_V wd_1182 wd_1183 wd_1184 wd_5 (wd_c wd_1185)) rfl rfl rfl (by decide +kernel) ⟨Nat.le_of_ble_eq_true rfl, Nat.le_of_ble_eq_true rfl⟩) ⟨Pw.fb, va_recv hK hP (ci := 7) (q0 := 4) rfl rfl, fun U hU hW => Pw.to (hP.sub [4, 0, 1, 2, 3] rfl) (hD.sub [4, 0, 1, 2, 3] (by decide) rfl) (hK.sub [0, 1, 2, 3] rfl) hE hS hFc hU hW⟩ rfl rfl hl.1 rfl (lv_room (Nat.le_of_ble_eq_true rfl)) dX7_could_19 ⟨Nat.le_of_ble_eq_true rfl, Nat.le_of_ble_eq_true rfl⟩) hS (fun q _ h => hFc q h) hFc (fun r u t H locs ht hvm hw hB hz1 hk1 hS => ?_)
      have hru9 := hw.2
      have hw := hw.1
      obtain ⟨x_2806, x_2807, x_2808, f_2809, f_2810, e_x_2806_0, hB⟩ := hB
      obtain ⟨hP, hD, hK⟩ := Bw.go (ws' := [(oc7 oM x_2800 rM_tape iM_taped iM_size iM_at iM_end iM_token iM_whole iM_nameSize iM_fault iM_place x_2801 rM_letters iM_failed iM_hasCourt rM_r rM_fresh rM_told rM_read rM_st rM_undone rM_kept iM_undos iM_images rM_fresher iM_fresherSize iM_scale iM_night rM_heardRow rM_cutRow iM_breaths iM_cutMany iM_allBreaths rM_trial rM_words iM_fewestBreaths iM_orderMany iM_orderSum iM_leastOrder rM_often x_2806 x_2807 x_2808 iM_allWeight iM_enoughWeight iM_worthSum iM_firstRest iM_leastDrawn), (arI rM_r kM_r 287 fM_r), (arI rM_told kM_told 90 fM_told), (arI rM_trial kM_trial 90 f_2809), (arI rM_often kM_often 4 f_2810)]) (tys' := [(kM_r, .int), (kM_told, .int), (kM_trial, .int), (kM_often, .int)]) hB rfl ht hvm hP hD hK [4, 0, 1, 2, 3] [] rfl (by decide) (by decide) [] hk1 hFc rfl rfl rfl
      clear hz1 hk1 hvm ht hB
      rw [← hru9] at e_x_2806_0
      obtain ⟨x_2811, rfl⟩ : ∃ z, z = r := ⟨_, rfl⟩
      have hG := hG.trans (un6_eq e_x_2806_0)
      refine lv_pop hx hb dX7_could_22 rfl ?_
      refine lv_aload_n hx hb dX7_could_23 rfl (lv_at hl 0 rfl) ?_
      refine va_get (D := (dC, dI)) (ci := 7) (v := .int x_2807) (C := RX7) (T := TX7) (N := 48) hx hb hts inX7 hown hK hP 0 rfl rfl 41 (by decide) (hts _ wd_1186) (fun _ h9 => h9) rfl dX7_could_24 ?_
      exact W.iret hx hb hr (fun t ht hW => ⟨⟨_, (cI x_2807), rfl, ⟨⟨trivial, trivial⟩, (cI_of x_2807)⟩, ⟨x_2800, x_2801, x_2806, x_2807, x_2808, f_2809, f_2810, (cI_tup hG), Bw.to (hP.sub [0, 1, 2, 3, 4] rfl) (hD.sub [0, 1, 2, 3, 4] (by decide) rfl) (hK.sub [0, 1, 2, 3] rfl) ht hW⟩⟩, hS.F ht⟩) hS.2.2 dX7_could_27
    · skip
      have hG := hG.trans (if_pos c_2805)
      have gc_2805 := ti_eq c_2805 rfl kc_0
      refine lv_aload_n hx hb dX7_could_11 rfl (lv_at hl 0 rfl) ?_
      refine lv_iconst (v := 1) hx hb dX7_could_12 (by decide) ?_
      have hFc := va_free (wc := [(oc7 oM x_2800 rM_tape iM_taped iM_size iM_at iM_end iM_token iM_whole iM_nameSize iM_fault iM_place x_2801 rM_letters iM_failed iM_hasCourt rM_r rM_fresh rM_told rM_read rM_st rM_undone rM_kept iM_undos iM_images rM_fresher iM_fresherSize iM_scale iM_night rM_heardRow rM_cutRow iM_breaths iM_cutMany iM_allBreaths rM_trial rM_words iM_fewestBreaths iM_orderMany iM_orderSum iM_leastOrder rM_often iM_setMany iM_someOf iM_allOf iM_allWeight iM_enoughWeight iM_worthSum iM_firstRest iM_leastDrawn)]) hD hS hA [4] rfl
      refine va_calli (va_runV (As := [.int 1]) (rest := []) ⟨hx, hb, hml, hown, hts⟩ (tX7_no l dC dI _ oM x_2800 rM_tape iM_taped iM_size iM_at iM_end iM_token iM_whole iM_nameSize iM_fault iM_place x_2801 rM_letters iM_failed iM_hasCourt rM_r rM_fresh rM_told rM_read rM_st rM_undone rM_kept iM_undos iM_images rM_fresher iM_fresherSize iM_scale iM_night rM_heardRow rM_cutRow iM_breaths iM_cutMany iM_allBreaths rM_trial rM_words iM_fewestBreaths iM_orderMany iM_orderSum iM_leastOrder rM_often iM_setMany iM_someOf iM_allOf iM_allWeight iM_enoughWeight iM_worthSum iM_firstRest iM_leastDrawn 1 (by first | omega | decide) (by first | omega | decide) (by first | omega | decide) (by first | omega | decide) (by first | omega | decide) (by first | omega | decide) (by first | omega | decide) (by first | omega | decide) (by first | omega | decide) (by first | omega | decide)) (cwV 1 hts (wd_V wd_396 wd_397 wd_398 wd_5 (wd_c wd_399)) rfl rfl rfl (by decide +kernel) ⟨Nat.le_of_ble_eq_true rfl, Nat.le_of_ble_eq_true rfl⟩) ⟨Pw.fb, va_recv hK hP (ci := 7) (q0 := 4) rfl rfl, fun U hU hW => Pw.to (hP.sub [4] rfl) (hD.sub [4] (by decide) rfl) (hK.sub [] rfl) hE hS hFc hU hW⟩ rfl rfl hl.1 rfl (lv_room (Nat.le_of_ble_eq_true rfl)) dX7_could_13 ⟨Nat.le_of_ble_eq_true rfl, Nat.le_of_ble_eq_true rfl⟩) hS (fun q _ h => hFc q h) hFc (fun r u t H locs ht hvm hw hB hz1 hk1 hS => ?_)
      have hru9 := hw.2
      have hw := hw.1
      obtain ⟨x_2812, e_x_2812_0, hB⟩ := hB
      obtain ⟨hP, hD, hK⟩ := Bw.go (ws' := [(arI rM_r kM_r 287 fM_r), (arI rM_told kM_told 90 fM_told), (arI rM_trial kM_trial 90 fM_trial), (arI rM_often kM_often 4 fM_often), (oc7 oM x_2800 rM_tape iM_taped iM_size iM_at iM_end iM_token iM_whole iM_nameSize iM_fault iM_place x_2812 rM_letters iM_failed iM_hasCourt rM_r rM_fresh rM_told rM_read rM_st rM_undone rM_kept iM_undos iM_images rM_fresher iM_fresherSize iM_scale iM_night rM_heardRow rM_cutRow iM_breaths iM_cutMany iM_allBreaths rM_trial rM_words iM_fewestBreaths iM_orderMany iM_orderSum iM_leastOrder rM_often iM_setMany iM_someOf iM_allOf iM_allWeight iM_enoughWeight iM_worthSum iM_firstRest iM_leastDrawn)]) (tys' := [(kM_r, .int), (kM_told, .int), (kM_trial, .int), (kM_often, .int)]) hB rfl ht hvm hP hD hK [4] [0, 1, 2, 3] rfl (by decide) (by decide) [0, 1, 2, 3] hk1 hFc rfl rfl rfl
      clear hz1 hk1 hvm ht hB
      rw [← hru9] at e_x_2812_0
      obtain ⟨x_2813, rfl⟩ : ∃ z, z = r := ⟨_, rfl⟩
      have hG := hG.trans (un2_eq e_x_2812_0)
      exact W.iret hx hb hr (fun t ht hW => ⟨⟨_, (cI x_2813), rfl, ⟨⟨trivial, trivial⟩, (cI_of x_2813)⟩, ⟨x_2800, x_2812, iM_setMany, iM_someOf, iM_allOf, fM_trial, fM_often, (cI_tup hG), Bw.to (hP.sub [4, 0, 1, 2, 3] rfl) (hD.sub [4, 0, 1, 2, 3] (by decide) rfl) (hK.sub [0, 1, 2, 3] rfl) ht hW⟩⟩, hS.F ht⟩) hS.2.2 dX7_could_16
set_option maxHeartbeats 4000000 in
set_option maxRecDepth 100000 in
theorem tX7_surely (l : Launch) (dC : Nat → ClassId) (dI : Nat → Nat → Nat) (sz : Nat) (oM : Nat) (iM_thrown : Int32) (rM_tape : Nat) (iM_taped : Int32) (iM_size : Int32) (iM_at : Int32) (iM_end : Int32) (iM_token : Int32) (iM_whole : Int32) (iM_nameSize : Int32) (iM_fault : Int32) (iM_place : Int32) (iM_trouble : Int32) (rM_letters : Nat) (iM_failed : Int32) (iM_hasCourt : Int32) (rM_r : Nat) (fM_r : Nat → Int32) (kM_r : ClassId) (rM_fresh : Nat) (rM_told : Nat) (fM_told : Nat → Int32) (kM_told : ClassId) (rM_read : Nat) (rM_st : Nat) (rM_undone : Nat) (rM_kept : Nat) (iM_undos : Int32) (iM_images : Int32) (rM_fresher : Nat) (iM_fresherSize : Int32) (iM_scale : Int32) (iM_night : Int32) (rM_heardRow : Nat) (rM_cutRow : Nat) (iM_breaths : Int32) (iM_cutMany : Int32) (iM_allBreaths : Int32) (rM_trial : Nat) (fM_trial : Nat → Int32) (kM_trial : ClassId) (rM_words : Nat) (iM_fewestBreaths : Int32) (iM_orderMany : Int32) (iM_orderSum : Int32) (iM_leastOrder : Int32) (rM_often : Nat) (fM_often : Nat → Int32) (kM_often : ClassId) (iM_setMany : Int32) (iM_someOf : Int32) (iM_allOf : Int32) (iM_allWeight : Int64) (iM_enoughWeight : Int64) (iM_worthSum : Int64) (iM_firstRest : Int32) (iM_leastDrawn : Int32) (b_iM_taped : 0 ≤ iM_taped.toInt ∧ iM_taped.toInt ≤ 900) (b_iM_size : 0 ≤ iM_size.toInt ∧ iM_size.toInt ≤ 900) (b_iM_end : 0 ≤ iM_end.toInt ∧ iM_end.toInt ≤ 900) (b_iM_failed : 0 ≤ iM_failed.toInt ∧ iM_failed.toInt ≤ 1) (b_iM_hasCourt : 0 ≤ iM_hasCourt.toInt ∧ iM_hasCourt.toInt ≤ 1) (b_iM_undos : 0 ≤ iM_undos.toInt ∧ iM_undos.toInt ≤ 16) (b_iM_images : 0 ≤ iM_images.toInt ∧ iM_images.toInt ≤ 3) (b_iM_scale : 1 ≤ iM_scale.toInt ∧ iM_scale.toInt ≤ 1296) (b_iM_breaths : 0 ≤ iM_breaths.toInt ∧ iM_breaths.toInt ≤ 399) (b_iM_cutMany : 0 ≤ iM_cutMany.toInt ∧ iM_cutMany.toInt ≤ 399) (r_R : ROk fM_r) (r_C : iM_hasCourt.toInt ≤ 0 ∨ (1 ≤ (fM_r 1).toInt ∧ 0 ≤ (fM_r 6).toInt ∧ (fM_r 6).toInt < (fM_r 1).toInt)) (r_told : RowOk fM_r fM_told)  : Met l yX7_surely (Cond.code yX7_surely cX7_surely 1 (some .int) :: wG) ({ frames := 24, cells := 0, slots := 0, locals := 630 }) (va_Pc [.ref oM] (Pw dC dI sz [(oc7 oM iM_thrown rM_tape iM_taped iM_size iM_at iM_end iM_token iM_whole iM_nameSize iM_fault iM_place iM_trouble rM_letters iM_failed iM_hasCourt rM_r rM_fresh rM_told rM_read rM_st rM_undone rM_kept iM_undos iM_images rM_fresher iM_fresherSize iM_scale iM_night rM_heardRow rM_cutRow iM_breaths iM_cutMany iM_allBreaths rM_trial rM_words iM_fewestBreaths iM_orderMany iM_orderSum iM_leastOrder rM_often iM_setMany iM_someOf iM_allOf iM_allWeight iM_enoughWeight iM_worthSum iM_firstRest iM_leastDrawn), (arI rM_r kM_r 287 fM_r), (arI rM_told kM_told 90 fM_told), (arI rM_trial kM_trial 90 fM_trial), (arI rM_often kM_often 4 fM_often)] [(kM_r, .int), (kM_told, .int), (kM_trial, .int), (kM_often, .int)])) (va_Qi (fun (r : Int32) (u : Nat) => (True ∧ True) ∧ r = Int32.ofNat u) (fun (u : Nat) (t : State) => ∃ (niM_thrown : Int32) (niM_trouble : Int32) (niM_setMany : Int32) (niM_someOf : Int32) (niM_allOf : Int32) (nfM_trial : Nat → Int32) (nfM_often : Nat → Int32), (PX7_surely iM_hasCourt fM_r fM_told iM_scale iM_night fM_trial fM_often iM_setMany iM_someOf iM_allOf = (Int32.ofNat u, niM_thrown, niM_trouble, niM_setMany, niM_someOf, niM_allOf, nfM_trial, nfM_often)) ∧ Bw dC dI (va_A [(oc7 oM iM_thrown rM_tape iM_taped iM_size iM_at iM_end iM_token iM_whole iM_nameSize iM_fault iM_place iM_trouble rM_letters iM_failed iM_hasCourt rM_r rM_fresh rM_told rM_read rM_st rM_undone rM_kept iM_undos iM_images rM_fresher iM_fresherSize iM_scale iM_night rM_heardRow rM_cutRow iM_breaths iM_cutMany iM_allBreaths rM_trial rM_words iM_fewestBreaths iM_orderMany iM_orderSum iM_leastOrder rM_often iM_setMany iM_someOf iM_allOf iM_allWeight iM_enoughWeight iM_worthSum iM_firstRest iM_leastDrawn), (arI rM_r kM_r 287 fM_r), (arI rM_told kM_told 90 fM_told), (arI rM_trial kM_trial 90 fM_trial), (arI rM_often kM_often 4 fM_often)] sz) [(oc7 oM niM_thrown rM_tape iM_taped iM_size iM_at iM_end iM_token iM_whole iM_nameSize iM_fault iM_place niM_trouble rM_letters iM_failed iM_hasCourt rM_r rM_fresh rM_told rM_read rM_st rM_undone rM_kept iM_undos iM_images rM_fresher iM_fresherSize iM_scale iM_night rM_heardRow rM_cutRow iM_breaths iM_cutMany iM_allBreaths rM_trial rM_words iM_fewestBreaths iM_orderMany iM_orderSum iM_leastOrder rM_often niM_setMany niM_someOf niM_allOf iM_allWeight iM_enoughWeight iM_worthSum iM_firstRest iM_leastDrawn), (arI rM_r kM_r 287 fM_r), (arI rM_told kM_told 90 fM_told), (arI rM_trial kM_trial 90 nfM_trial), (arI rM_often kM_often 4 nfM_often)] [(kM_r, .int), (kM_told, .int), (kM_trial, .int), (kM_often, .int)] t) (va_A [(oc7 oM iM_thrown rM_tape iM_taped iM_size iM_at iM_end iM_token iM_whole iM_nameSize iM_fault iM_place iM_trouble rM_letters iM_failed iM_hasCourt rM_r rM_fresh rM_told rM_read rM_st rM_undone rM_kept iM_undos iM_images rM_fresher iM_fresherSize iM_scale iM_night rM_heardRow rM_cutRow iM_breaths iM_cutMany iM_allBreaths rM_trial rM_words iM_fewestBreaths iM_orderMany iM_orderSum iM_leastOrder rM_often iM_setMany iM_someOf iM_allOf iM_allWeight iM_enoughWeight iM_worthSum iM_firstRest iM_leastDrawn), (arI rM_r kM_r 287 fM_r), (arI rM_told kM_told 90 fM_told), (arI rM_trial kM_trial 90 fM_trial), (arI rM_often kM_often 4 fM_often)] sz)) 0 0 (va_A [(oc7 oM iM_thrown rM_tape iM_taped iM_size iM_at iM_end iM_token iM_whole iM_nameSize iM_fault iM_place iM_trouble rM_letters iM_failed iM_hasCourt rM_r rM_fresh rM_told rM_read rM_st rM_undone rM_kept iM_undos iM_images rM_fresher iM_fresherSize iM_scale iM_night rM_heardRow rM_cutRow iM_breaths iM_cutMany iM_allBreaths rM_trial rM_words iM_fewestBreaths iM_orderMany iM_orderSum iM_leastOrder rM_often iM_setMany iM_someOf iM_allOf iM_allWeight iM_enoughWeight iM_worthSum iM_firstRest iM_leastDrawn), (arI rM_r kM_r 287 fM_r), (arI rM_told kM_told 90 fM_told), (arI rM_trial kM_trial 90 fM_trial), (arI rM_often kM_often 4 fM_often)] sz) := by
  refine Met.ofW (cc := cX7_surely) (maxL := 1) (ret := (some .int)) (by decide) rfl ?_
  intro p e s m args below meth c s₁ B hml hv
  obtain ⟨rfl, hsz, hP, hK, hD0, hE⟩ := hv
  have hx := B.exec
  have hb := B.bytes
  have hr := B.returns
  have hts : ∀ w ∈ wG, w.before ([.ref oM] : List Value).toArray s = true := fun w h => atoms_spec (ws := Cond.code yX7_surely cX7_surely 1 (some .int) :: wG) B.pre w (List.mem_cons_of_mem _ h)
  have hown : s.vm.findClass RX7 = some m.cls := findClass_of_methodNamed B.named
  have hlocks := B.notSynchronized
  subst hsz
  have hD := hD0.self (sz := s.heap.size)
  generalize hAe : va_A [(oc7 oM iM_thrown rM_tape iM_taped iM_size iM_at iM_end iM_token iM_whole iM_nameSize iM_fault iM_place iM_trouble rM_letters iM_failed iM_hasCourt rM_r rM_fresh rM_told rM_read rM_st rM_undone rM_kept iM_undos iM_images rM_fresher iM_fresherSize iM_scale iM_night rM_heardRow rM_cutRow iM_breaths iM_cutMany iM_allBreaths rM_trial rM_words iM_fewestBreaths iM_orderMany iM_orderSum iM_leastOrder rM_often iM_setMany iM_someOf iM_allOf iM_allWeight iM_enoughWeight iM_worthSum iM_firstRest iM_leastDrawn), (arI rM_r kM_r 287 fM_r), (arI rM_told kM_told 90 fM_told), (arI rM_trial kM_trial 90 fM_trial), (arI rM_often kM_often 4 fM_often)] s.heap.size = A at hD hE ⊢
  have hA : ∀ q : Nat, s.heap.size ≤ q → A q := fun q h => by rw [← hAe]; exact Or.inr h
  have hS : va_S A s.heap s.heap [] := va_S.rf
  have hl := lv_entry ([.ref oM]) (n := 1) (Nat.le_of_ble_eq_true rfl)
  rw [lg_entry_eq]
  generalize (lg_sl ([.ref oM]) ++ List.replicate (1 - (lg_sl ([.ref oM])).length) Slot.unset).toArray = ls at hl ⊢
  have hl : lv_has ls 1 [(0, .ref oM)] := hl
  have hG := PX7_surely_eq iM_hasCourt fM_r fM_told iM_scale iM_night fM_trial fM_often iM_setMany iM_someOf iM_allOf
  have s_slips := r_R.slips
  have s_nodes := r_R.nodes
  have s_uns := r_R.uns
  refine lv_aload_n hx hb dX7_surely_0 rfl (lv_at hl 0 rfl) ?_
  have hFc := va_free (wc := [(oc7 oM iM_thrown rM_tape iM_taped iM_size iM_at iM_end iM_token iM_whole iM_nameSize iM_fault iM_place iM_trouble rM_letters iM_failed iM_hasCourt rM_r rM_fresh rM_told rM_read rM_st rM_undone rM_kept iM_undos iM_images rM_fresher iM_fresherSize iM_scale iM_night rM_heardRow rM_cutRow iM_breaths iM_cutMany iM_allBreaths rM_trial rM_words iM_fewestBreaths iM_orderMany iM_orderSum iM_leastOrder rM_often iM_setMany iM_someOf iM_allOf iM_allWeight iM_enoughWeight iM_worthSum iM_firstRest iM_leastDrawn)]) hD hS hA [0] rfl
  refine va_callv (va_runV (As := []) (rest := []) ⟨hx, hb, hml, hown, hts⟩ (tX7_good l dC dI _ oM iM_thrown rM_tape iM_taped iM_size iM_at iM_end iM_token iM_whole iM_nameSize iM_fault iM_place iM_trouble rM_letters iM_failed iM_hasCourt rM_r rM_fresh rM_told rM_read rM_st rM_undone rM_kept iM_undos iM_images rM_fresher iM_fresherSize iM_scale iM_night rM_heardRow rM_cutRow iM_breaths iM_cutMany iM_allBreaths rM_trial rM_words iM_fewestBreaths iM_orderMany iM_orderSum iM_leastOrder rM_often iM_setMany iM_someOf iM_allOf iM_allWeight iM_enoughWeight iM_worthSum iM_firstRest iM_leastDrawn (by first | omega | decide) (by first | omega | decide) (by first | omega | decide) (by first | omega | decide) (by first | omega | decide) (by first | omega | decide) (by first | omega | decide) (by first | omega | decide) (by first | omega | decide) (by first | omega | decide)) (cwV 0 hts (wd_V wd_388 wd_389 wd_390 wd_5 (wd_c wd_391)) rfl rfl rfl (by decide +kernel) ⟨Nat.le_of_ble_eq_true rfl, Nat.le_of_ble_eq_true rfl⟩) ⟨Pw.fb, va_recv hK hP (ci := 7) (q0 := 0) rfl rfl, fun U hU hW => Pw.to (hP.sub [0] rfl) (hD.sub [0] (by decide) rfl) (hK.sub [] rfl) hE hS hFc hU hW⟩ rfl rfl hl.1 rfl (lv_room (Nat.le_of_ble_eq_true rfl)) dX7_surely_1 ⟨Nat.le_of_ble_eq_true rfl, Nat.le_of_ble_eq_true rfl⟩) hS (fun q _ h => hFc q h) hFc (fun u t H locs ht hvm hw hB hz1 hk1 hS => ?_)
  obtain ⟨x_2828, x_2829, b_x_2828, b_x_2829, e_x_2828_0, hB⟩ := hB
  obtain ⟨hP, hD, hK⟩ := Bw.go (ws' := [(arI rM_r kM_r 287 fM_r), (arI rM_told kM_told 90 fM_told), (arI rM_trial kM_trial 90 fM_trial), (arI rM_often kM_often 4 fM_often), (oc7 oM x_2828 rM_tape iM_taped iM_size iM_at iM_end iM_token iM_whole iM_nameSize iM_fault iM_place x_2829 rM_letters iM_failed iM_hasCourt rM_r rM_fresh rM_told rM_read rM_st rM_undone rM_kept iM_undos iM_images rM_fresher iM_fresherSize iM_scale iM_night rM_heardRow rM_cutRow iM_breaths iM_cutMany iM_allBreaths rM_trial rM_words iM_fewestBreaths iM_orderMany iM_orderSum iM_leastOrder rM_often iM_setMany iM_someOf iM_allOf iM_allWeight iM_enoughWeight iM_worthSum iM_firstRest iM_leastDrawn)]) (tys' := [(kM_r, .int), (kM_told, .int), (kM_trial, .int), (kM_often, .int)]) hB rfl ht hvm hP hD hK [0] [1, 2, 3, 4] rfl (by decide) (by decide) [0, 1, 2, 3] hk1 hFc rfl rfl rfl
  clear hz1 hk1 hvm ht hB
  have hG := hG.trans (un2_eq e_x_2828_0)
  refine lv_aload_n hx hb dX7_surely_4 rfl (lv_at hl 0 rfl) ?_
  rcases (id r_C) with r_C0 | r_C1
  · skip
    refine va_get (D := (dC, dI)) (ci := 7) (v := .int iM_hasCourt) (C := RX7) (T := TX7) (N := 48) hx hb hts inX7 hown hK hP 4 rfl rfl 14 (by decide) (hts _ wd_385) (fun _ h9 => h9) rfl dX7_surely_5 ?_
    refine lv_if_ne (tgt := 17) hx hb dX7_surely_8 (by decide) (fun c_2830 => ?_) (fun c_2830 => ?_)
    · skip
      have hG := hG.trans (if_neg c_2830)
      have gc_2830 := ti_ne c_2830 rfl kc_0
      exfalso; clear hG; omega
    · skip
      have hG := hG.trans (if_pos c_2830)
      have gc_2830 := ti_eq c_2830 rfl kc_0
      refine lv_aload_n hx hb dX7_surely_11 rfl (lv_at hl 0 rfl) ?_
      refine lv_iconst (v := 1) hx hb dX7_surely_12 (by decide) ?_
      have hFc := va_free (wc := [(oc7 oM x_2828 rM_tape iM_taped iM_size iM_at iM_end iM_token iM_whole iM_nameSize iM_fault iM_place x_2829 rM_letters iM_failed iM_hasCourt rM_r rM_fresh rM_told rM_read rM_st rM_undone rM_kept iM_undos iM_images rM_fresher iM_fresherSize iM_scale iM_night rM_heardRow rM_cutRow iM_breaths iM_cutMany iM_allBreaths rM_trial rM_words iM_fewestBreaths iM_orderMany iM_orderSum iM_leastOrder rM_often iM_setMany iM_someOf iM_allOf iM_allWeight iM_enoughWeight iM_worthSum iM_firstRest iM_leastDrawn)]) hD hS hA [4] rfl
      refine va_calli (va_runV (As := [.int 1]) (rest := []) ⟨hx, hb, hml, hown, hts⟩ (tX7_no l dC dI _ oM x_2828 rM_tape iM_taped iM_size iM_at iM_end iM_token iM_whole iM_nameSize iM_fault iM_place x_2829 rM_letters iM_failed iM_hasCourt rM_r rM_fresh rM_told rM_read rM_st rM_undone rM_kept iM_undos iM_images rM_fresher iM_fresherSize iM_scale iM_night rM_heardRow rM_cutRow iM_breaths iM_cutMany iM_allBreaths rM_trial rM_words iM_fewestBreaths iM_orderMany iM_orderSum iM_leastOrder rM_often iM_setMany iM_someOf iM_allOf iM_allWeight iM_enoughWeight iM_worthSum iM_firstRest iM_leastDrawn 1 (by first | omega | decide) (by first | omega | decide) (by first | omega | decide) (by first | omega | decide) (by first | omega | decide) (by first | omega | decide) (by first | omega | decide) (by first | omega | decide) (by first | omega | decide) (by first | omega | decide)) (cwV 1 hts (wd_V wd_396 wd_397 wd_398 wd_5 (wd_c wd_399)) rfl rfl rfl (by decide +kernel) ⟨Nat.le_of_ble_eq_true rfl, Nat.le_of_ble_eq_true rfl⟩) ⟨Pw.fb, va_recv hK hP (ci := 7) (q0 := 4) rfl rfl, fun U hU hW => Pw.to (hP.sub [4] rfl) (hD.sub [4] (by decide) rfl) (hK.sub [] rfl) hE hS hFc hU hW⟩ rfl rfl hl.1 rfl (lv_room (Nat.le_of_ble_eq_true rfl)) dX7_surely_13 ⟨Nat.le_of_ble_eq_true rfl, Nat.le_of_ble_eq_true rfl⟩) hS (fun q _ h => hFc q h) hFc (fun r u t H locs ht hvm hw hB hz1 hk1 hS => ?_)
      have hru9 := hw.2
      have hw := hw.1
      obtain ⟨x_2831, e_x_2831_0, hB⟩ := hB
      obtain ⟨hP, hD, hK⟩ := Bw.go (ws' := [(arI rM_r kM_r 287 fM_r), (arI rM_told kM_told 90 fM_told), (arI rM_trial kM_trial 90 fM_trial), (arI rM_often kM_often 4 fM_often), (oc7 oM x_2828 rM_tape iM_taped iM_size iM_at iM_end iM_token iM_whole iM_nameSize iM_fault iM_place x_2831 rM_letters iM_failed iM_hasCourt rM_r rM_fresh rM_told rM_read rM_st rM_undone rM_kept iM_undos iM_images rM_fresher iM_fresherSize iM_scale iM_night rM_heardRow rM_cutRow iM_breaths iM_cutMany iM_allBreaths rM_trial rM_words iM_fewestBreaths iM_orderMany iM_orderSum iM_leastOrder rM_often iM_setMany iM_someOf iM_allOf iM_allWeight iM_enoughWeight iM_worthSum iM_firstRest iM_leastDrawn)]) (tys' := [(kM_r, .int), (kM_told, .int), (kM_trial, .int), (kM_often, .int)]) hB rfl ht hvm hP hD hK [4] [0, 1, 2, 3] rfl (by decide) (by decide) [0, 1, 2, 3] hk1 hFc rfl rfl rfl
      clear hz1 hk1 hvm ht hB
      rw [← hru9] at e_x_2831_0
      obtain ⟨x_2832, rfl⟩ : ∃ z, z = r := ⟨_, rfl⟩
      have hG := hG.trans (un2_eq e_x_2831_0)
      exact W.iret hx hb hr (fun t ht hW => ⟨⟨_, (cI x_2832), rfl, ⟨⟨trivial, trivial⟩, (cI_of x_2832)⟩, ⟨x_2828, x_2831, iM_setMany, iM_someOf, iM_allOf, fM_trial, fM_often, (cI_tup hG), Bw.to (hP.sub [4, 0, 1, 2, 3] rfl) (hD.sub [4, 0, 1, 2, 3] (by decide) rfl) (hK.sub [0, 1, 2, 3] rfl) ht hW⟩⟩, hS.F ht⟩) hS.2.2 dX7_surely_16
  · skip
    refine va_get (D := (dC, dI)) (ci := 7) (v := .int iM_hasCourt) (C := RX7) (T := TX7) (N := 48) hx hb hts inX7 hown hK hP 4 rfl rfl 14 (by decide) (hts _ wd_385) (fun _ h9 => h9) rfl dX7_surely_5 ?_
    refine lv_if_ne (tgt := 17) hx hb dX7_surely_8 (by decide) (fun c_2833 => ?_) (fun c_2833 => ?_)
    · skip
      have hG := hG.trans (if_neg c_2833)
      have gc_2833 := ti_ne c_2833 rfl kc_0
      refine lv_aload_n hx hb dX7_surely_17 rfl (lv_at hl 0 rfl) ?_
      refine lv_iconst (v := (-1)) hx hb dX7_surely_18 (by decide) ?_
      have hFc := va_free (wc := [(oc7 oM x_2828 rM_tape iM_taped iM_size iM_at iM_end iM_token iM_whole iM_nameSize iM_fault iM_place x_2829 rM_letters iM_failed iM_hasCourt rM_r rM_fresh rM_told rM_read rM_st rM_undone rM_kept iM_undos iM_images rM_fresher iM_fresherSize iM_scale iM_night rM_heardRow rM_cutRow iM_breaths iM_cutMany iM_allBreaths rM_trial rM_words iM_fewestBreaths iM_orderMany iM_orderSum iM_leastOrder rM_often iM_setMany iM_someOf iM_allOf iM_allWeight iM_enoughWeight iM_worthSum iM_firstRest iM_leastDrawn), (arI rM_r kM_r 287 fM_r), (arI rM_told kM_told 90 fM_told), (arI rM_trial kM_trial 90 fM_trial), (arI rM_often kM_often 4 fM_often)]) hD hS hA [4, 0, 1, 2, 3] rfl
      refine va_calli (va_runV (As := [.int (-1)]) (rest := []) ⟨hx, hb, hml, hown, hts⟩ (tX7_seekSets l dC dI _ oM x_2828 rM_tape iM_taped iM_size iM_at iM_end iM_token iM_whole iM_nameSize iM_fault iM_place x_2829 rM_letters iM_failed iM_hasCourt rM_r fM_r kM_r rM_fresh rM_told fM_told kM_told rM_read rM_st rM_undone rM_kept iM_undos iM_images rM_fresher iM_fresherSize iM_scale iM_night rM_heardRow rM_cutRow iM_breaths iM_cutMany iM_allBreaths rM_trial fM_trial kM_trial rM_words iM_fewestBreaths iM_orderMany iM_orderSum iM_leastOrder rM_often fM_often kM_often iM_setMany iM_someOf iM_allOf iM_allWeight iM_enoughWeight iM_worthSum iM_firstRest iM_leastDrawn (-1) (by first | omega | decide) (by first | omega | decide) (by first | omega | decide) (by first | omega | decide) (by first | omega | decide) (by first | omega | decide) (by first | omega | decide) (by first | omega | decide) (by first | omega | decide) (by first | omega | decide) (by assumption) (by assumption) (by assumption) (by first | omega | decide | assumption | (have q0 := kc_m1; have q1 := kc_0; have q2 := kc_1; omega) | (intro h; exact absurd h (by decide)))) (cwV 1 hts (wd_V wd_1182 wd_1183 wd_1184 wd_5 (wd_c wd_1185)) rfl rfl rfl (by decide +kernel) ⟨Nat.le_of_ble_eq_true rfl, Nat.le_of_ble_eq_true rfl⟩) ⟨Pw.fb, va_recv hK hP (ci := 7) (q0 := 4) rfl rfl, fun U hU hW => Pw.to (hP.sub [4, 0, 1, 2, 3] rfl) (hD.sub [4, 0, 1, 2, 3] (by decide) rfl) (hK.sub [0, 1, 2, 3] rfl) hE hS hFc hU hW⟩ rfl rfl hl.1 rfl (lv_room (Nat.le_of_ble_eq_true rfl)) dX7_surely_19 ⟨Nat.le_of_ble_eq_true rfl, Nat.le_of_ble_eq_true rfl⟩) hS (fun q _ h => hFc q h) hFc (fun r u t H locs ht hvm hw hB hz1 hk1 hS => ?_)
      have hru9 := hw.2
      have hw := hw.1
      obtain ⟨x_2834, x_2835, x_2836, f_2837, f_2838, e_x_2834_0, hB⟩ := hB
      obtain ⟨hP, hD, hK⟩ := Bw.go (ws' := [(oc7 oM x_2828 rM_tape iM_taped iM_size iM_at iM_end iM_token iM_whole iM_nameSize iM_fault iM_place x_2829 rM_letters iM_failed iM_hasCourt rM_r rM_fresh rM_told rM_read rM_st rM_undone rM_kept iM_undos iM_images rM_fresher iM_fresherSize iM_scale iM_night rM_heardRow rM_cutRow iM_breaths iM_cutMany iM_allBreaths rM_trial rM_words iM_fewestBreaths iM_orderMany iM_orderSum iM_leastOrder rM_often x_2834 x_2835 x_2836 iM_allWeight iM_enoughWeight iM_worthSum iM_firstRest iM_leastDrawn), (arI rM_r kM_r 287 fM_r), (arI rM_told kM_told 90 fM_told), (arI rM_trial kM_trial 90 f_2837), (arI rM_often kM_often 4 f_2838)]) (tys' := [(kM_r, .int), (kM_told, .int), (kM_trial, .int), (kM_often, .int)]) hB rfl ht hvm hP hD hK [4, 0, 1, 2, 3] [] rfl (by decide) (by decide) [] hk1 hFc rfl rfl rfl
      clear hz1 hk1 hvm ht hB
      rw [← hru9] at e_x_2834_0
      obtain ⟨x_2839, rfl⟩ : ∃ z, z = r := ⟨_, rfl⟩
      have hG := hG.trans (un6_eq e_x_2834_0)
      refine lv_pop hx hb dX7_surely_22 rfl ?_
      refine lv_aload_n hx hb dX7_surely_23 rfl (lv_at hl 0 rfl) ?_
      refine va_get (D := (dC, dI)) (ci := 7) (v := .int x_2836) (C := RX7) (T := TX7) (N := 48) hx hb hts inX7 hown hK hP 0 rfl rfl 42 (by decide) (hts _ wd_1187) (fun _ h9 => h9) rfl dX7_surely_24 ?_
      exact W.iret hx hb hr (fun t ht hW => ⟨⟨_, (cI x_2836), rfl, ⟨⟨trivial, trivial⟩, (cI_of x_2836)⟩, ⟨x_2828, x_2829, x_2834, x_2835, x_2836, f_2837, f_2838, (cI_tup hG), Bw.to (hP.sub [0, 1, 2, 3, 4] rfl) (hD.sub [0, 1, 2, 3, 4] (by decide) rfl) (hK.sub [0, 1, 2, 3] rfl) ht hW⟩⟩, hS.F ht⟩) hS.2.2 dX7_surely_27
    · skip
      have hG := hG.trans (if_pos c_2833)
      have gc_2833 := ti_eq c_2833 rfl kc_0
      refine lv_aload_n hx hb dX7_surely_11 rfl (lv_at hl 0 rfl) ?_
      refine lv_iconst (v := 1) hx hb dX7_surely_12 (by decide) ?_
      have hFc := va_free (wc := [(oc7 oM x_2828 rM_tape iM_taped iM_size iM_at iM_end iM_token iM_whole iM_nameSize iM_fault iM_place x_2829 rM_letters iM_failed iM_hasCourt rM_r rM_fresh rM_told rM_read rM_st rM_undone rM_kept iM_undos iM_images rM_fresher iM_fresherSize iM_scale iM_night rM_heardRow rM_cutRow iM_breaths iM_cutMany iM_allBreaths rM_trial rM_words iM_fewestBreaths iM_orderMany iM_orderSum iM_leastOrder rM_often iM_setMany iM_someOf iM_allOf iM_allWeight iM_enoughWeight iM_worthSum iM_firstRest iM_leastDrawn)]) hD hS hA [4] rfl
      refine va_calli (va_runV (As := [.int 1]) (rest := []) ⟨hx, hb, hml, hown, hts⟩ (tX7_no l dC dI _ oM x_2828 rM_tape iM_taped iM_size iM_at iM_end iM_token iM_whole iM_nameSize iM_fault iM_place x_2829 rM_letters iM_failed iM_hasCourt rM_r rM_fresh rM_told rM_read rM_st rM_undone rM_kept iM_undos iM_images rM_fresher iM_fresherSize iM_scale iM_night rM_heardRow rM_cutRow iM_breaths iM_cutMany iM_allBreaths rM_trial rM_words iM_fewestBreaths iM_orderMany iM_orderSum iM_leastOrder rM_often iM_setMany iM_someOf iM_allOf iM_allWeight iM_enoughWeight iM_worthSum iM_firstRest iM_leastDrawn 1 (by first | omega | decide) (by first | omega | decide) (by first | omega | decide) (by first | omega | decide) (by first | omega | decide) (by first | omega | decide) (by first | omega | decide) (by first | omega | decide) (by first | omega | decide) (by first | omega | decide)) (cwV 1 hts (wd_V wd_396 wd_397 wd_398 wd_5 (wd_c wd_399)) rfl rfl rfl (by decide +kernel) ⟨Nat.le_of_ble_eq_true rfl, Nat.le_of_ble_eq_true rfl⟩) ⟨Pw.fb, va_recv hK hP (ci := 7) (q0 := 4) rfl rfl, fun U hU hW => Pw.to (hP.sub [4] rfl) (hD.sub [4] (by decide) rfl) (hK.sub [] rfl) hE hS hFc hU hW⟩ rfl rfl hl.1 rfl (lv_room (Nat.le_of_ble_eq_true rfl)) dX7_surely_13 ⟨Nat.le_of_ble_eq_true rfl, Nat.le_of_ble_eq_true rfl⟩) hS (fun q _ h => hFc q h) hFc (fun r u t H locs ht hvm hw hB hz1 hk1 hS => ?_)
      have hru9 := hw.2
      have hw := hw.1
      obtain ⟨x_2840, e_x_2840_0, hB⟩ := hB
      obtain ⟨hP, hD, hK⟩ := Bw.go (ws' := [(arI rM_r kM_r 287 fM_r), (arI rM_told kM_told 90 fM_told), (arI rM_trial kM_trial 90 fM_trial), (arI rM_often kM_often 4 fM_often), (oc7 oM x_2828 rM_tape iM_taped iM_size iM_at iM_end iM_token iM_whole iM_nameSize iM_fault iM_place x_2840 rM_letters iM_failed iM_hasCourt rM_r rM_fresh rM_told rM_read rM_st rM_undone rM_kept iM_undos iM_images rM_fresher iM_fresherSize iM_scale iM_night rM_heardRow rM_cutRow iM_breaths iM_cutMany iM_allBreaths rM_trial rM_words iM_fewestBreaths iM_orderMany iM_orderSum iM_leastOrder rM_often iM_setMany iM_someOf iM_allOf iM_allWeight iM_enoughWeight iM_worthSum iM_firstRest iM_leastDrawn)]) (tys' := [(kM_r, .int), (kM_told, .int), (kM_trial, .int), (kM_often, .int)]) hB rfl ht hvm hP hD hK [4] [0, 1, 2, 3] rfl (by decide) (by decide) [0, 1, 2, 3] hk1 hFc rfl rfl rfl
      clear hz1 hk1 hvm ht hB
      rw [← hru9] at e_x_2840_0
      obtain ⟨x_2841, rfl⟩ : ∃ z, z = r := ⟨_, rfl⟩
      have hG := hG.trans (un2_eq e_x_2840_0)
      exact W.iret hx hb hr (fun t ht hW => ⟨⟨_, (cI x_2841), rfl, ⟨⟨trivial, trivial⟩, (cI_of x_2841)⟩, ⟨x_2828, x_2840, iM_setMany, iM_someOf, iM_allOf, fM_trial, fM_often, (cI_tup hG), Bw.to (hP.sub [4, 0, 1, 2, 3] rfl) (hD.sub [4, 0, 1, 2, 3] (by decide) rfl) (hK.sub [0, 1, 2, 3] rfl) ht hW⟩⟩, hS.F ht⟩) hS.2.2 dX7_surely_16
set_option maxHeartbeats 4000000 in
set_option maxRecDepth 100000 in
theorem tX7_ask (l : Launch) (dC : Nat → ClassId) (dI : Nat → Nat → Nat) (sz : Nat) (oM : Nat) (iM_thrown : Int32) (rM_tape : Nat) (iM_taped : Int32) (iM_size : Int32) (iM_at : Int32) (iM_end : Int32) (iM_token : Int32) (iM_whole : Int32) (iM_nameSize : Int32) (iM_fault : Int32) (iM_place : Int32) (iM_trouble : Int32) (rM_letters : Nat) (iM_failed : Int32) (iM_hasCourt : Int32) (rM_r : Nat) (fM_r : Nat → Int32) (kM_r : ClassId) (rM_fresh : Nat) (rM_told : Nat) (fM_told : Nat → Int32) (kM_told : ClassId) (rM_read : Nat) (rM_st : Nat) (rM_undone : Nat) (rM_kept : Nat) (iM_undos : Int32) (iM_images : Int32) (rM_fresher : Nat) (iM_fresherSize : Int32) (iM_scale : Int32) (iM_night : Int32) (rM_heardRow : Nat) (rM_cutRow : Nat) (iM_breaths : Int32) (iM_cutMany : Int32) (iM_allBreaths : Int32) (rM_trial : Nat) (fM_trial : Nat → Int32) (kM_trial : ClassId) (rM_words : Nat) (iM_fewestBreaths : Int32) (iM_orderMany : Int32) (iM_orderSum : Int32) (iM_leastOrder : Int32) (rM_often : Nat) (fM_often : Nat → Int32) (kM_often : ClassId) (iM_setMany : Int32) (iM_someOf : Int32) (iM_allOf : Int32) (iM_allWeight : Int64) (iM_enoughWeight : Int64) (iM_worthSum : Int64) (iM_firstRest : Int32) (iM_leastDrawn : Int32) (b_iM_taped : 0 ≤ iM_taped.toInt ∧ iM_taped.toInt ≤ 900) (b_iM_size : 0 ≤ iM_size.toInt ∧ iM_size.toInt ≤ 900) (b_iM_end : 0 ≤ iM_end.toInt ∧ iM_end.toInt ≤ 900) (b_iM_failed : 0 ≤ iM_failed.toInt ∧ iM_failed.toInt ≤ 1) (b_iM_hasCourt : 0 ≤ iM_hasCourt.toInt ∧ iM_hasCourt.toInt ≤ 1) (b_iM_undos : 0 ≤ iM_undos.toInt ∧ iM_undos.toInt ≤ 16) (b_iM_images : 0 ≤ iM_images.toInt ∧ iM_images.toInt ≤ 3) (b_iM_scale : 1 ≤ iM_scale.toInt ∧ iM_scale.toInt ≤ 1296) (b_iM_breaths : 0 ≤ iM_breaths.toInt ∧ iM_breaths.toInt ≤ 399) (b_iM_cutMany : 0 ≤ iM_cutMany.toInt ∧ iM_cutMany.toInt ≤ 399) (r_R : ROk fM_r) (r_C : iM_hasCourt.toInt ≤ 0 ∨ (1 ≤ (fM_r 1).toInt ∧ 0 ≤ (fM_r 6).toInt ∧ (fM_r 6).toInt < (fM_r 1).toInt)) (r_told : RowOk fM_r fM_told)  : Met l yX7_ask (Cond.code yX7_ask cX7_ask 1 (some .int) :: wG) ({ frames := 25, cells := 0, slots := 0, locals := 652 }) (va_Pc [.ref oM] (Pw dC dI sz [(oc7 oM iM_thrown rM_tape iM_taped iM_size iM_at iM_end iM_token iM_whole iM_nameSize iM_fault iM_place iM_trouble rM_letters iM_failed iM_hasCourt rM_r rM_fresh rM_told rM_read rM_st rM_undone rM_kept iM_undos iM_images rM_fresher iM_fresherSize iM_scale iM_night rM_heardRow rM_cutRow iM_breaths iM_cutMany iM_allBreaths rM_trial rM_words iM_fewestBreaths iM_orderMany iM_orderSum iM_leastOrder rM_often iM_setMany iM_someOf iM_allOf iM_allWeight iM_enoughWeight iM_worthSum iM_firstRest iM_leastDrawn), (arI rM_r kM_r 287 fM_r), (arI rM_told kM_told 90 fM_told), (arI rM_trial kM_trial 90 fM_trial), (arI rM_often kM_often 4 fM_often)] [(kM_r, .int), (kM_told, .int), (kM_trial, .int), (kM_often, .int)])) (va_Qi (fun (r : Int32) (u : Nat) => (True ∧ True) ∧ r = Int32.ofNat u) (fun (u : Nat) (t : State) => ∃ (niM_thrown : Int32) (niM_trouble : Int32) (niM_setMany : Int32) (niM_someOf : Int32) (niM_allOf : Int32) (nfM_trial : Nat → Int32) (nfM_often : Nat → Int32), (PX7_ask iM_hasCourt fM_r fM_told iM_scale iM_night fM_trial fM_often iM_setMany iM_someOf iM_allOf = (Int32.ofNat u, niM_thrown, niM_trouble, niM_setMany, niM_someOf, niM_allOf, nfM_trial, nfM_often)) ∧ Bw dC dI (va_A [(oc7 oM iM_thrown rM_tape iM_taped iM_size iM_at iM_end iM_token iM_whole iM_nameSize iM_fault iM_place iM_trouble rM_letters iM_failed iM_hasCourt rM_r rM_fresh rM_told rM_read rM_st rM_undone rM_kept iM_undos iM_images rM_fresher iM_fresherSize iM_scale iM_night rM_heardRow rM_cutRow iM_breaths iM_cutMany iM_allBreaths rM_trial rM_words iM_fewestBreaths iM_orderMany iM_orderSum iM_leastOrder rM_often iM_setMany iM_someOf iM_allOf iM_allWeight iM_enoughWeight iM_worthSum iM_firstRest iM_leastDrawn), (arI rM_r kM_r 287 fM_r), (arI rM_told kM_told 90 fM_told), (arI rM_trial kM_trial 90 fM_trial), (arI rM_often kM_often 4 fM_often)] sz) [(oc7 oM niM_thrown rM_tape iM_taped iM_size iM_at iM_end iM_token iM_whole iM_nameSize iM_fault iM_place niM_trouble rM_letters iM_failed iM_hasCourt rM_r rM_fresh rM_told rM_read rM_st rM_undone rM_kept iM_undos iM_images rM_fresher iM_fresherSize iM_scale iM_night rM_heardRow rM_cutRow iM_breaths iM_cutMany iM_allBreaths rM_trial rM_words iM_fewestBreaths iM_orderMany iM_orderSum iM_leastOrder rM_often niM_setMany niM_someOf niM_allOf iM_allWeight iM_enoughWeight iM_worthSum iM_firstRest iM_leastDrawn), (arI rM_r kM_r 287 fM_r), (arI rM_told kM_told 90 fM_told), (arI rM_trial kM_trial 90 nfM_trial), (arI rM_often kM_often 4 nfM_often)] [(kM_r, .int), (kM_told, .int), (kM_trial, .int), (kM_often, .int)] t) (va_A [(oc7 oM iM_thrown rM_tape iM_taped iM_size iM_at iM_end iM_token iM_whole iM_nameSize iM_fault iM_place iM_trouble rM_letters iM_failed iM_hasCourt rM_r rM_fresh rM_told rM_read rM_st rM_undone rM_kept iM_undos iM_images rM_fresher iM_fresherSize iM_scale iM_night rM_heardRow rM_cutRow iM_breaths iM_cutMany iM_allBreaths rM_trial rM_words iM_fewestBreaths iM_orderMany iM_orderSum iM_leastOrder rM_often iM_setMany iM_someOf iM_allOf iM_allWeight iM_enoughWeight iM_worthSum iM_firstRest iM_leastDrawn), (arI rM_r kM_r 287 fM_r), (arI rM_told kM_told 90 fM_told), (arI rM_trial kM_trial 90 fM_trial), (arI rM_often kM_often 4 fM_often)] sz)) 0 0 (va_A [(oc7 oM iM_thrown rM_tape iM_taped iM_size iM_at iM_end iM_token iM_whole iM_nameSize iM_fault iM_place iM_trouble rM_letters iM_failed iM_hasCourt rM_r rM_fresh rM_told rM_read rM_st rM_undone rM_kept iM_undos iM_images rM_fresher iM_fresherSize iM_scale iM_night rM_heardRow rM_cutRow iM_breaths iM_cutMany iM_allBreaths rM_trial rM_words iM_fewestBreaths iM_orderMany iM_orderSum iM_leastOrder rM_often iM_setMany iM_someOf iM_allOf iM_allWeight iM_enoughWeight iM_worthSum iM_firstRest iM_leastDrawn), (arI rM_r kM_r 287 fM_r), (arI rM_told kM_told 90 fM_told), (arI rM_trial kM_trial 90 fM_trial), (arI rM_often kM_often 4 fM_often)] sz) := by
  refine Met.ofW (cc := cX7_ask) (maxL := 1) (ret := (some .int)) (by decide) rfl ?_
  intro p e s m args below meth c s₁ B hml hv
  obtain ⟨rfl, hsz, hP, hK, hD0, hE⟩ := hv
  have hx := B.exec
  have hb := B.bytes
  have hr := B.returns
  have hts : ∀ w ∈ wG, w.before ([.ref oM] : List Value).toArray s = true := fun w h => atoms_spec (ws := Cond.code yX7_ask cX7_ask 1 (some .int) :: wG) B.pre w (List.mem_cons_of_mem _ h)
  have hown : s.vm.findClass RX7 = some m.cls := findClass_of_methodNamed B.named
  have hlocks := B.notSynchronized
  subst hsz
  have hD := hD0.self (sz := s.heap.size)
  generalize hAe : va_A [(oc7 oM iM_thrown rM_tape iM_taped iM_size iM_at iM_end iM_token iM_whole iM_nameSize iM_fault iM_place iM_trouble rM_letters iM_failed iM_hasCourt rM_r rM_fresh rM_told rM_read rM_st rM_undone rM_kept iM_undos iM_images rM_fresher iM_fresherSize iM_scale iM_night rM_heardRow rM_cutRow iM_breaths iM_cutMany iM_allBreaths rM_trial rM_words iM_fewestBreaths iM_orderMany iM_orderSum iM_leastOrder rM_often iM_setMany iM_someOf iM_allOf iM_allWeight iM_enoughWeight iM_worthSum iM_firstRest iM_leastDrawn), (arI rM_r kM_r 287 fM_r), (arI rM_told kM_told 90 fM_told), (arI rM_trial kM_trial 90 fM_trial), (arI rM_often kM_often 4 fM_often)] s.heap.size = A at hD hE ⊢
  have hA : ∀ q : Nat, s.heap.size ≤ q → A q := fun q h => by rw [← hAe]; exact Or.inr h
  have hS : va_S A s.heap s.heap [] := va_S.rf
  have hl := lv_entry ([.ref oM]) (n := 1) (Nat.le_of_ble_eq_true rfl)
  rw [lg_entry_eq]
  generalize (lg_sl ([.ref oM]) ++ List.replicate (1 - (lg_sl ([.ref oM])).length) Slot.unset).toArray = ls at hl ⊢
  have hl : lv_has ls 1 [(0, .ref oM)] := hl
  have hG := PX7_ask_eq iM_hasCourt fM_r fM_told iM_scale iM_night fM_trial fM_often iM_setMany iM_someOf iM_allOf
  have s_slips := r_R.slips
  have s_nodes := r_R.nodes
  have s_uns := r_R.uns
  refine lv_aload_n hx hb dX7_ask_0 rfl (lv_at hl 0 rfl) ?_
  have hFc := va_free (wc := [(oc7 oM iM_thrown rM_tape iM_taped iM_size iM_at iM_end iM_token iM_whole iM_nameSize iM_fault iM_place iM_trouble rM_letters iM_failed iM_hasCourt rM_r rM_fresh rM_told rM_read rM_st rM_undone rM_kept iM_undos iM_images rM_fresher iM_fresherSize iM_scale iM_night rM_heardRow rM_cutRow iM_breaths iM_cutMany iM_allBreaths rM_trial rM_words iM_fewestBreaths iM_orderMany iM_orderSum iM_leastOrder rM_often iM_setMany iM_someOf iM_allOf iM_allWeight iM_enoughWeight iM_worthSum iM_firstRest iM_leastDrawn)]) hD hS hA [0] rfl
  refine va_callv (va_runV (As := []) (rest := []) ⟨hx, hb, hml, hown, hts⟩ (tX7_good l dC dI _ oM iM_thrown rM_tape iM_taped iM_size iM_at iM_end iM_token iM_whole iM_nameSize iM_fault iM_place iM_trouble rM_letters iM_failed iM_hasCourt rM_r rM_fresh rM_told rM_read rM_st rM_undone rM_kept iM_undos iM_images rM_fresher iM_fresherSize iM_scale iM_night rM_heardRow rM_cutRow iM_breaths iM_cutMany iM_allBreaths rM_trial rM_words iM_fewestBreaths iM_orderMany iM_orderSum iM_leastOrder rM_often iM_setMany iM_someOf iM_allOf iM_allWeight iM_enoughWeight iM_worthSum iM_firstRest iM_leastDrawn (by first | omega | decide) (by first | omega | decide) (by first | omega | decide) (by first | omega | decide) (by first | omega | decide) (by first | omega | decide) (by first | omega | decide) (by first | omega | decide) (by first | omega | decide) (by first | omega | decide)) (cwV 0 hts (wd_V wd_388 wd_389 wd_390 wd_5 (wd_c wd_391)) rfl rfl rfl (by decide +kernel) ⟨Nat.le_of_ble_eq_true rfl, Nat.le_of_ble_eq_true rfl⟩) ⟨Pw.fb, va_recv hK hP (ci := 7) (q0 := 0) rfl rfl, fun U hU hW => Pw.to (hP.sub [0] rfl) (hD.sub [0] (by decide) rfl) (hK.sub [] rfl) hE hS hFc hU hW⟩ rfl rfl hl.1 rfl (lv_room (Nat.le_of_ble_eq_true rfl)) dX7_ask_1 ⟨Nat.le_of_ble_eq_true rfl, Nat.le_of_ble_eq_true rfl⟩) hS (fun q _ h => hFc q h) hFc (fun u t H locs ht hvm hw hB hz1 hk1 hS => ?_)
  obtain ⟨x_2856, x_2857, b_x_2856, b_x_2857, e_x_2856_0, hB⟩ := hB
  obtain ⟨hP, hD, hK⟩ := Bw.go (ws' := [(arI rM_r kM_r 287 fM_r), (arI rM_told kM_told 90 fM_told), (arI rM_trial kM_trial 90 fM_trial), (arI rM_often kM_often 4 fM_often), (oc7 oM x_2856 rM_tape iM_taped iM_size iM_at iM_end iM_token iM_whole iM_nameSize iM_fault iM_place x_2857 rM_letters iM_failed iM_hasCourt rM_r rM_fresh rM_told rM_read rM_st rM_undone rM_kept iM_undos iM_images rM_fresher iM_fresherSize iM_scale iM_night rM_heardRow rM_cutRow iM_breaths iM_cutMany iM_allBreaths rM_trial rM_words iM_fewestBreaths iM_orderMany iM_orderSum iM_leastOrder rM_often iM_setMany iM_someOf iM_allOf iM_allWeight iM_enoughWeight iM_worthSum iM_firstRest iM_leastDrawn)]) (tys' := [(kM_r, .int), (kM_told, .int), (kM_trial, .int), (kM_often, .int)]) hB rfl ht hvm hP hD hK [0] [1, 2, 3, 4] rfl (by decide) (by decide) [0, 1, 2, 3] hk1 hFc rfl rfl rfl
  clear hz1 hk1 hvm ht hB
  have hG := hG.trans (un2_eq e_x_2856_0)
  refine lv_aload_n hx hb dX7_ask_4 rfl (lv_at hl 0 rfl) ?_
  rcases (id r_C) with r_C0 | r_C1
  · skip
    refine va_get (D := (dC, dI)) (ci := 7) (v := .int iM_hasCourt) (C := RX7) (T := TX7) (N := 48) hx hb hts inX7 hown hK hP 4 rfl rfl 14 (by decide) (hts _ wd_385) (fun _ h9 => h9) rfl dX7_ask_5 ?_
    refine lv_if_eq (tgt := 18) hx hb dX7_ask_8 (by decide) (fun c_2858 => ?_) (fun c_2858 => ?_)
    · skip
      have hG := hG.trans (if_pos c_2858)
      have gc_2858 := ti_eq c_2858 rfl kc_0
      refine lv_aload_n hx hb dX7_ask_18 rfl (lv_at hl 0 rfl) ?_
      refine lv_iconst (v := 1) hx hb dX7_ask_19 (by decide) ?_
      have hFc := va_free (wc := [(oc7 oM x_2856 rM_tape iM_taped iM_size iM_at iM_end iM_token iM_whole iM_nameSize iM_fault iM_place x_2857 rM_letters iM_failed iM_hasCourt rM_r rM_fresh rM_told rM_read rM_st rM_undone rM_kept iM_undos iM_images rM_fresher iM_fresherSize iM_scale iM_night rM_heardRow rM_cutRow iM_breaths iM_cutMany iM_allBreaths rM_trial rM_words iM_fewestBreaths iM_orderMany iM_orderSum iM_leastOrder rM_often iM_setMany iM_someOf iM_allOf iM_allWeight iM_enoughWeight iM_worthSum iM_firstRest iM_leastDrawn)]) hD hS hA [4] rfl
      refine va_calli (va_runV (As := [.int 1]) (rest := []) ⟨hx, hb, hml, hown, hts⟩ (tX7_no l dC dI _ oM x_2856 rM_tape iM_taped iM_size iM_at iM_end iM_token iM_whole iM_nameSize iM_fault iM_place x_2857 rM_letters iM_failed iM_hasCourt rM_r rM_fresh rM_told rM_read rM_st rM_undone rM_kept iM_undos iM_images rM_fresher iM_fresherSize iM_scale iM_night rM_heardRow rM_cutRow iM_breaths iM_cutMany iM_allBreaths rM_trial rM_words iM_fewestBreaths iM_orderMany iM_orderSum iM_leastOrder rM_often iM_setMany iM_someOf iM_allOf iM_allWeight iM_enoughWeight iM_worthSum iM_firstRest iM_leastDrawn 1 (by first | omega | decide) (by first | omega | decide) (by first | omega | decide) (by first | omega | decide) (by first | omega | decide) (by first | omega | decide) (by first | omega | decide) (by first | omega | decide) (by first | omega | decide) (by first | omega | decide)) (cwV 1 hts (wd_V wd_396 wd_397 wd_398 wd_5 (wd_c wd_399)) rfl rfl rfl (by decide +kernel) ⟨Nat.le_of_ble_eq_true rfl, Nat.le_of_ble_eq_true rfl⟩) ⟨Pw.fb, va_recv hK hP (ci := 7) (q0 := 4) rfl rfl, fun U hU hW => Pw.to (hP.sub [4] rfl) (hD.sub [4] (by decide) rfl) (hK.sub [] rfl) hE hS hFc hU hW⟩ rfl rfl hl.1 rfl (lv_room (Nat.le_of_ble_eq_true rfl)) dX7_ask_20 ⟨Nat.le_of_ble_eq_true rfl, Nat.le_of_ble_eq_true rfl⟩) hS (fun q _ h => hFc q h) hFc (fun r u t H locs ht hvm hw hB hz1 hk1 hS => ?_)
      have hru9 := hw.2
      have hw := hw.1
      obtain ⟨x_2859, e_x_2859_0, hB⟩ := hB
      obtain ⟨hP, hD, hK⟩ := Bw.go (ws' := [(arI rM_r kM_r 287 fM_r), (arI rM_told kM_told 90 fM_told), (arI rM_trial kM_trial 90 fM_trial), (arI rM_often kM_often 4 fM_often), (oc7 oM x_2856 rM_tape iM_taped iM_size iM_at iM_end iM_token iM_whole iM_nameSize iM_fault iM_place x_2859 rM_letters iM_failed iM_hasCourt rM_r rM_fresh rM_told rM_read rM_st rM_undone rM_kept iM_undos iM_images rM_fresher iM_fresherSize iM_scale iM_night rM_heardRow rM_cutRow iM_breaths iM_cutMany iM_allBreaths rM_trial rM_words iM_fewestBreaths iM_orderMany iM_orderSum iM_leastOrder rM_often iM_setMany iM_someOf iM_allOf iM_allWeight iM_enoughWeight iM_worthSum iM_firstRest iM_leastDrawn)]) (tys' := [(kM_r, .int), (kM_told, .int), (kM_trial, .int), (kM_often, .int)]) hB rfl ht hvm hP hD hK [4] [0, 1, 2, 3] rfl (by decide) (by decide) [0, 1, 2, 3] hk1 hFc rfl rfl rfl
      clear hz1 hk1 hvm ht hB
      rw [← hru9] at e_x_2859_0
      obtain ⟨x_2860, rfl⟩ : ∃ z, z = r := ⟨_, rfl⟩
      have hG := hG.trans (un2_eq e_x_2859_0)
      exact W.iret hx hb hr (fun t ht hW => ⟨⟨_, (cI x_2860), rfl, ⟨⟨trivial, trivial⟩, (cI_of x_2860)⟩, ⟨x_2856, x_2859, iM_setMany, iM_someOf, iM_allOf, fM_trial, fM_often, (cI_tup hG), Bw.to (hP.sub [4, 0, 1, 2, 3] rfl) (hD.sub [4, 0, 1, 2, 3] (by decide) rfl) (hK.sub [0, 1, 2, 3] rfl) ht hW⟩⟩, hS.F ht⟩) hS.2.2 dX7_ask_23
    · skip
      have hG := hG.trans (if_neg c_2858)
      have gc_2858 := ti_ne c_2858 rfl kc_0
      exfalso; clear hG; omega
  · skip
    refine va_get (D := (dC, dI)) (ci := 7) (v := .int iM_hasCourt) (C := RX7) (T := TX7) (N := 48) hx hb hts inX7 hown hK hP 4 rfl rfl 14 (by decide) (hts _ wd_385) (fun _ h9 => h9) rfl dX7_ask_5 ?_
    refine lv_if_eq (tgt := 18) hx hb dX7_ask_8 (by decide) (fun c_2861 => ?_) (fun c_2861 => ?_)
    · skip
      have hG := hG.trans (if_pos c_2861)
      have gc_2861 := ti_eq c_2861 rfl kc_0
      refine lv_aload_n hx hb dX7_ask_18 rfl (lv_at hl 0 rfl) ?_
      refine lv_iconst (v := 1) hx hb dX7_ask_19 (by decide) ?_
      have hFc := va_free (wc := [(oc7 oM x_2856 rM_tape iM_taped iM_size iM_at iM_end iM_token iM_whole iM_nameSize iM_fault iM_place x_2857 rM_letters iM_failed iM_hasCourt rM_r rM_fresh rM_told rM_read rM_st rM_undone rM_kept iM_undos iM_images rM_fresher iM_fresherSize iM_scale iM_night rM_heardRow rM_cutRow iM_breaths iM_cutMany iM_allBreaths rM_trial rM_words iM_fewestBreaths iM_orderMany iM_orderSum iM_leastOrder rM_often iM_setMany iM_someOf iM_allOf iM_allWeight iM_enoughWeight iM_worthSum iM_firstRest iM_leastDrawn)]) hD hS hA [4] rfl
      refine va_calli (va_runV (As := [.int 1]) (rest := []) ⟨hx, hb, hml, hown, hts⟩ (tX7_no l dC dI _ oM x_2856 rM_tape iM_taped iM_size iM_at iM_end iM_token iM_whole iM_nameSize iM_fault iM_place x_2857 rM_letters iM_failed iM_hasCourt rM_r rM_fresh rM_told rM_read rM_st rM_undone rM_kept iM_undos iM_images rM_fresher iM_fresherSize iM_scale iM_night rM_heardRow rM_cutRow iM_breaths iM_cutMany iM_allBreaths rM_trial rM_words iM_fewestBreaths iM_orderMany iM_orderSum iM_leastOrder rM_often iM_setMany iM_someOf iM_allOf iM_allWeight iM_enoughWeight iM_worthSum iM_firstRest iM_leastDrawn 1 (by first | omega | decide) (by first | omega | decide) (by first | omega | decide) (by first | omega | decide) (by first | omega | decide) (by first | omega | decide) (by first | omega | decide) (by first | omega | decide) (by first | omega | decide) (by first | omega | decide)) (cwV 1 hts (wd_V wd_396 wd_397 wd_398 wd_5 (wd_c wd_399)) rfl rfl rfl (by decide +kernel) ⟨Nat.le_of_ble_eq_true rfl, Nat.le_of_ble_eq_true rfl⟩) ⟨Pw.fb, va_recv hK hP (ci := 7) (q0 := 4) rfl rfl, fun U hU hW => Pw.to (hP.sub [4] rfl) (hD.sub [4] (by decide) rfl) (hK.sub [] rfl) hE hS hFc hU hW⟩ rfl rfl hl.1 rfl (lv_room (Nat.le_of_ble_eq_true rfl)) dX7_ask_20 ⟨Nat.le_of_ble_eq_true rfl, Nat.le_of_ble_eq_true rfl⟩) hS (fun q _ h => hFc q h) hFc (fun r u t H locs ht hvm hw hB hz1 hk1 hS => ?_)
      have hru9 := hw.2
      have hw := hw.1
      obtain ⟨x_2862, e_x_2862_0, hB⟩ := hB
      obtain ⟨hP, hD, hK⟩ := Bw.go (ws' := [(arI rM_r kM_r 287 fM_r), (arI rM_told kM_told 90 fM_told), (arI rM_trial kM_trial 90 fM_trial), (arI rM_often kM_often 4 fM_often), (oc7 oM x_2856 rM_tape iM_taped iM_size iM_at iM_end iM_token iM_whole iM_nameSize iM_fault iM_place x_2862 rM_letters iM_failed iM_hasCourt rM_r rM_fresh rM_told rM_read rM_st rM_undone rM_kept iM_undos iM_images rM_fresher iM_fresherSize iM_scale iM_night rM_heardRow rM_cutRow iM_breaths iM_cutMany iM_allBreaths rM_trial rM_words iM_fewestBreaths iM_orderMany iM_orderSum iM_leastOrder rM_often iM_setMany iM_someOf iM_allOf iM_allWeight iM_enoughWeight iM_worthSum iM_firstRest iM_leastDrawn)]) (tys' := [(kM_r, .int), (kM_told, .int), (kM_trial, .int), (kM_often, .int)]) hB rfl ht hvm hP hD hK [4] [0, 1, 2, 3] rfl (by decide) (by decide) [0, 1, 2, 3] hk1 hFc rfl rfl rfl
      clear hz1 hk1 hvm ht hB
      rw [← hru9] at e_x_2862_0
      obtain ⟨x_2863, rfl⟩ : ∃ z, z = r := ⟨_, rfl⟩
      have hG := hG.trans (un2_eq e_x_2862_0)
      exact W.iret hx hb hr (fun t ht hW => ⟨⟨_, (cI x_2863), rfl, ⟨⟨trivial, trivial⟩, (cI_of x_2863)⟩, ⟨x_2856, x_2862, iM_setMany, iM_someOf, iM_allOf, fM_trial, fM_often, (cI_tup hG), Bw.to (hP.sub [4, 0, 1, 2, 3] rfl) (hD.sub [4, 0, 1, 2, 3] (by decide) rfl) (hK.sub [0, 1, 2, 3] rfl) ht hW⟩⟩, hS.F ht⟩) hS.2.2 dX7_ask_23
    · skip
      have hG := hG.trans (if_neg c_2861)
      have gc_2861 := ti_ne c_2861 rfl kc_0
      refine lv_aload_n hx hb dX7_ask_11 rfl (lv_at hl 0 rfl) ?_
      have hFc := va_free (wc := [(oc7 oM x_2856 rM_tape iM_taped iM_size iM_at iM_end iM_token iM_whole iM_nameSize iM_fault iM_place x_2857 rM_letters iM_failed iM_hasCourt rM_r rM_fresh rM_told rM_read rM_st rM_undone rM_kept iM_undos iM_images rM_fresher iM_fresherSize iM_scale iM_night rM_heardRow rM_cutRow iM_breaths iM_cutMany iM_allBreaths rM_trial rM_words iM_fewestBreaths iM_orderMany iM_orderSum iM_leastOrder rM_often iM_setMany iM_someOf iM_allOf iM_allWeight iM_enoughWeight iM_worthSum iM_firstRest iM_leastDrawn), (arI rM_r kM_r 287 fM_r), (arI rM_told kM_told 90 fM_told), (arI rM_trial kM_trial 90 fM_trial), (arI rM_often kM_often 4 fM_often)]) hD hS hA [4, 0, 1, 2, 3] rfl
      refine va_calli (va_runV (As := []) (rest := []) ⟨hx, hb, hml, hown, hts⟩ (tX7_askedFirst l dC dI _ oM x_2856 rM_tape iM_taped iM_size iM_at iM_end iM_token iM_whole iM_nameSize iM_fault iM_place x_2857 rM_letters iM_failed iM_hasCourt rM_r fM_r kM_r rM_fresh rM_told fM_told kM_told rM_read rM_st rM_undone rM_kept iM_undos iM_images rM_fresher iM_fresherSize iM_scale iM_night rM_heardRow rM_cutRow iM_breaths iM_cutMany iM_allBreaths rM_trial fM_trial kM_trial rM_words iM_fewestBreaths iM_orderMany iM_orderSum iM_leastOrder rM_often fM_often kM_often iM_setMany iM_someOf iM_allOf iM_allWeight iM_enoughWeight iM_worthSum iM_firstRest iM_leastDrawn (by first | omega | decide) (by first | omega | decide) (by first | omega | decide) (by first | omega | decide) (by first | omega | decide) (by first | omega | decide) (by first | omega | decide) (by first | omega | decide) (by first | omega | decide) (by first | omega | decide) (by assumption) (by assumption) (by assumption) (by first | omega | decide | assumption | (have q0 := kc_0; have q1 := kc_1; omega) | (intro h; exact absurd h (by decide)))) (cwV 0 hts (wd_V wd_1238 wd_1239 wd_1240 wd_5 (wd_c wd_1241)) rfl rfl rfl (by decide +kernel) ⟨Nat.le_of_ble_eq_true rfl, Nat.le_of_ble_eq_true rfl⟩) ⟨Pw.fb, va_recv hK hP (ci := 7) (q0 := 4) rfl rfl, fun U hU hW => Pw.to (hP.sub [4, 0, 1, 2, 3] rfl) (hD.sub [4, 0, 1, 2, 3] (by decide) rfl) (hK.sub [0, 1, 2, 3] rfl) hE hS hFc hU hW⟩ rfl rfl hl.1 rfl (lv_room (Nat.le_of_ble_eq_true rfl)) dX7_ask_12 ⟨Nat.le_of_ble_eq_true rfl, Nat.le_of_ble_eq_true rfl⟩) hS (fun q _ h => hFc q h) hFc (fun r u t H locs ht hvm hw hB hz1 hk1 hS => ?_)
      have hru9 := hw.2
      have hw := hw.1
      obtain ⟨x_2864, x_2865, x_2866, f_2867, f_2868, e_x_2864_0, hB⟩ := hB
      obtain ⟨hP, hD, hK⟩ := Bw.go (ws' := [(oc7 oM x_2856 rM_tape iM_taped iM_size iM_at iM_end iM_token iM_whole iM_nameSize iM_fault iM_place x_2857 rM_letters iM_failed iM_hasCourt rM_r rM_fresh rM_told rM_read rM_st rM_undone rM_kept iM_undos iM_images rM_fresher iM_fresherSize iM_scale iM_night rM_heardRow rM_cutRow iM_breaths iM_cutMany iM_allBreaths rM_trial rM_words iM_fewestBreaths iM_orderMany iM_orderSum iM_leastOrder rM_often x_2864 x_2865 x_2866 iM_allWeight iM_enoughWeight iM_worthSum iM_firstRest iM_leastDrawn), (arI rM_r kM_r 287 fM_r), (arI rM_told kM_told 90 fM_told), (arI rM_trial kM_trial 90 f_2867), (arI rM_often kM_often 4 f_2868)]) (tys' := [(kM_r, .int), (kM_told, .int), (kM_trial, .int), (kM_often, .int)]) hB rfl ht hvm hP hD hK [4, 0, 1, 2, 3] [] rfl (by decide) (by decide) [] hk1 hFc rfl rfl rfl
      clear hz1 hk1 hvm ht hB
      rw [← hru9] at e_x_2864_0
      obtain ⟨x_2869, rfl⟩ : ∃ z, z = r := ⟨_, rfl⟩
      have hG := hG.trans (un6_eq e_x_2864_0)
      have ux_2869 := hw.2
      refine lv_goto (tgt := 23) hx hb dX7_ask_15 (by decide) ?_
      exact W.iret hx hb hr (fun t ht hW => ⟨⟨_, (cI x_2869), rfl, ⟨⟨trivial, trivial⟩, (cI_of x_2869)⟩, ⟨x_2856, x_2857, x_2864, x_2865, x_2866, f_2867, f_2868, (cI_tup hG), Bw.to (hP.sub [0, 1, 2, 3, 4] rfl) (hD.sub [0, 1, 2, 3, 4] (by decide) rfl) (hK.sub [0, 1, 2, 3] rfl) ht hW⟩⟩, hS.F ht⟩) hS.2.2 dX7_ask_23
set_option maxHeartbeats 4000000 in
set_option maxRecDepth 100000 in
theorem tX7_askLeaves (l : Launch) (dC : Nat → ClassId) (dI : Nat → Nat → Nat) (sz : Nat) (oM : Nat) (iM_thrown : Int32) (rM_tape : Nat) (iM_taped : Int32) (iM_size : Int32) (iM_at : Int32) (iM_end : Int32) (iM_token : Int32) (iM_whole : Int32) (iM_nameSize : Int32) (iM_fault : Int32) (iM_place : Int32) (iM_trouble : Int32) (rM_letters : Nat) (iM_failed : Int32) (iM_hasCourt : Int32) (rM_r : Nat) (fM_r : Nat → Int32) (kM_r : ClassId) (rM_fresh : Nat) (rM_told : Nat) (fM_told : Nat → Int32) (kM_told : ClassId) (rM_read : Nat) (rM_st : Nat) (rM_undone : Nat) (rM_kept : Nat) (iM_undos : Int32) (iM_images : Int32) (rM_fresher : Nat) (iM_fresherSize : Int32) (iM_scale : Int32) (iM_night : Int32) (rM_heardRow : Nat) (rM_cutRow : Nat) (iM_breaths : Int32) (iM_cutMany : Int32) (iM_allBreaths : Int32) (rM_trial : Nat) (fM_trial : Nat → Int32) (kM_trial : ClassId) (rM_words : Nat) (iM_fewestBreaths : Int32) (iM_orderMany : Int32) (iM_orderSum : Int32) (iM_leastOrder : Int32) (rM_often : Nat) (fM_often : Nat → Int32) (kM_often : ClassId) (iM_setMany : Int32) (iM_someOf : Int32) (iM_allOf : Int32) (iM_allWeight : Int64) (iM_enoughWeight : Int64) (iM_worthSum : Int64) (iM_firstRest : Int32) (iM_leastDrawn : Int32) (b_iM_taped : 0 ≤ iM_taped.toInt ∧ iM_taped.toInt ≤ 900) (b_iM_size : 0 ≤ iM_size.toInt ∧ iM_size.toInt ≤ 900) (b_iM_end : 0 ≤ iM_end.toInt ∧ iM_end.toInt ≤ 900) (b_iM_failed : 0 ≤ iM_failed.toInt ∧ iM_failed.toInt ≤ 1) (b_iM_hasCourt : 0 ≤ iM_hasCourt.toInt ∧ iM_hasCourt.toInt ≤ 1) (b_iM_undos : 0 ≤ iM_undos.toInt ∧ iM_undos.toInt ≤ 16) (b_iM_images : 0 ≤ iM_images.toInt ∧ iM_images.toInt ≤ 3) (b_iM_scale : 1 ≤ iM_scale.toInt ∧ iM_scale.toInt ≤ 1296) (b_iM_breaths : 0 ≤ iM_breaths.toInt ∧ iM_breaths.toInt ≤ 399) (b_iM_cutMany : 0 ≤ iM_cutMany.toInt ∧ iM_cutMany.toInt ≤ 399) (r_R : ROk fM_r) (r_C : iM_hasCourt.toInt ≤ 0 ∨ (1 ≤ (fM_r 1).toInt ∧ 0 ≤ (fM_r 6).toInt ∧ (fM_r 6).toInt < (fM_r 1).toInt)) (r_told : RowOk fM_r fM_told)  : Met l yX7_askLeaves (Cond.code yX7_askLeaves cX7_askLeaves 2 (some .int) :: wG) ({ frames := 25, cells := 0, slots := 0, locals := 652 }) (va_Pc [.ref oM] (Pw dC dI sz [(oc7 oM iM_thrown rM_tape iM_taped iM_size iM_at iM_end iM_token iM_whole iM_nameSize iM_fault iM_place iM_trouble rM_letters iM_failed iM_hasCourt rM_r rM_fresh rM_told rM_read rM_st rM_undone rM_kept iM_undos iM_images rM_fresher iM_fresherSize iM_scale iM_night rM_heardRow rM_cutRow iM_breaths iM_cutMany iM_allBreaths rM_trial rM_words iM_fewestBreaths iM_orderMany iM_orderSum iM_leastOrder rM_often iM_setMany iM_someOf iM_allOf iM_allWeight iM_enoughWeight iM_worthSum iM_firstRest iM_leastDrawn), (arI rM_r kM_r 287 fM_r), (arI rM_told kM_told 90 fM_told), (arI rM_trial kM_trial 90 fM_trial), (arI rM_often kM_often 4 fM_often)] [(kM_r, .int), (kM_told, .int), (kM_trial, .int), (kM_often, .int)])) (va_Qi (fun (r : Int32) (u : Nat) => (True ∧ True) ∧ r = Int32.ofNat u) (fun (u : Nat) (t : State) => ∃ (niM_thrown : Int32) (niM_trouble : Int32) (niM_setMany : Int32) (niM_someOf : Int32) (niM_allOf : Int32) (nfM_trial : Nat → Int32) (nfM_often : Nat → Int32), (PX7_askLeaves iM_hasCourt fM_r fM_told iM_scale iM_night fM_trial fM_often iM_setMany iM_someOf iM_allOf = (Int32.ofNat u, niM_thrown, niM_trouble, niM_setMany, niM_someOf, niM_allOf, nfM_trial, nfM_often)) ∧ Bw dC dI (va_A [(oc7 oM iM_thrown rM_tape iM_taped iM_size iM_at iM_end iM_token iM_whole iM_nameSize iM_fault iM_place iM_trouble rM_letters iM_failed iM_hasCourt rM_r rM_fresh rM_told rM_read rM_st rM_undone rM_kept iM_undos iM_images rM_fresher iM_fresherSize iM_scale iM_night rM_heardRow rM_cutRow iM_breaths iM_cutMany iM_allBreaths rM_trial rM_words iM_fewestBreaths iM_orderMany iM_orderSum iM_leastOrder rM_often iM_setMany iM_someOf iM_allOf iM_allWeight iM_enoughWeight iM_worthSum iM_firstRest iM_leastDrawn), (arI rM_r kM_r 287 fM_r), (arI rM_told kM_told 90 fM_told), (arI rM_trial kM_trial 90 fM_trial), (arI rM_often kM_often 4 fM_often)] sz) [(oc7 oM niM_thrown rM_tape iM_taped iM_size iM_at iM_end iM_token iM_whole iM_nameSize iM_fault iM_place niM_trouble rM_letters iM_failed iM_hasCourt rM_r rM_fresh rM_told rM_read rM_st rM_undone rM_kept iM_undos iM_images rM_fresher iM_fresherSize iM_scale iM_night rM_heardRow rM_cutRow iM_breaths iM_cutMany iM_allBreaths rM_trial rM_words iM_fewestBreaths iM_orderMany iM_orderSum iM_leastOrder rM_often niM_setMany niM_someOf niM_allOf iM_allWeight iM_enoughWeight iM_worthSum iM_firstRest iM_leastDrawn), (arI rM_r kM_r 287 fM_r), (arI rM_told kM_told 90 fM_told), (arI rM_trial kM_trial 90 nfM_trial), (arI rM_often kM_often 4 nfM_often)] [(kM_r, .int), (kM_told, .int), (kM_trial, .int), (kM_often, .int)] t) (va_A [(oc7 oM iM_thrown rM_tape iM_taped iM_size iM_at iM_end iM_token iM_whole iM_nameSize iM_fault iM_place iM_trouble rM_letters iM_failed iM_hasCourt rM_r rM_fresh rM_told rM_read rM_st rM_undone rM_kept iM_undos iM_images rM_fresher iM_fresherSize iM_scale iM_night rM_heardRow rM_cutRow iM_breaths iM_cutMany iM_allBreaths rM_trial rM_words iM_fewestBreaths iM_orderMany iM_orderSum iM_leastOrder rM_often iM_setMany iM_someOf iM_allOf iM_allWeight iM_enoughWeight iM_worthSum iM_firstRest iM_leastDrawn), (arI rM_r kM_r 287 fM_r), (arI rM_told kM_told 90 fM_told), (arI rM_trial kM_trial 90 fM_trial), (arI rM_often kM_often 4 fM_often)] sz)) 0 0 (va_A [(oc7 oM iM_thrown rM_tape iM_taped iM_size iM_at iM_end iM_token iM_whole iM_nameSize iM_fault iM_place iM_trouble rM_letters iM_failed iM_hasCourt rM_r rM_fresh rM_told rM_read rM_st rM_undone rM_kept iM_undos iM_images rM_fresher iM_fresherSize iM_scale iM_night rM_heardRow rM_cutRow iM_breaths iM_cutMany iM_allBreaths rM_trial rM_words iM_fewestBreaths iM_orderMany iM_orderSum iM_leastOrder rM_often iM_setMany iM_someOf iM_allOf iM_allWeight iM_enoughWeight iM_worthSum iM_firstRest iM_leastDrawn), (arI rM_r kM_r 287 fM_r), (arI rM_told kM_told 90 fM_told), (arI rM_trial kM_trial 90 fM_trial), (arI rM_often kM_often 4 fM_often)] sz) := by
  refine Met.ofW (cc := cX7_askLeaves) (maxL := 2) (ret := (some .int)) (by decide) rfl ?_
  intro p e s m args below meth c s₁ B hml hv
  obtain ⟨rfl, hsz, hP, hK, hD0, hE⟩ := hv
  have hx := B.exec
  have hb := B.bytes
  have hr := B.returns
  have hts : ∀ w ∈ wG, w.before ([.ref oM] : List Value).toArray s = true := fun w h => atoms_spec (ws := Cond.code yX7_askLeaves cX7_askLeaves 2 (some .int) :: wG) B.pre w (List.mem_cons_of_mem _ h)
  have hown : s.vm.findClass RX7 = some m.cls := findClass_of_methodNamed B.named
  have hlocks := B.notSynchronized
  subst hsz
  have hD := hD0.self (sz := s.heap.size)
  generalize hAe : va_A [(oc7 oM iM_thrown rM_tape iM_taped iM_size iM_at iM_end iM_token iM_whole iM_nameSize iM_fault iM_place iM_trouble rM_letters iM_failed iM_hasCourt rM_r rM_fresh rM_told rM_read rM_st rM_undone rM_kept iM_undos iM_images rM_fresher iM_fresherSize iM_scale iM_night rM_heardRow rM_cutRow iM_breaths iM_cutMany iM_allBreaths rM_trial rM_words iM_fewestBreaths iM_orderMany iM_orderSum iM_leastOrder rM_often iM_setMany iM_someOf iM_allOf iM_allWeight iM_enoughWeight iM_worthSum iM_firstRest iM_leastDrawn), (arI rM_r kM_r 287 fM_r), (arI rM_told kM_told 90 fM_told), (arI rM_trial kM_trial 90 fM_trial), (arI rM_often kM_often 4 fM_often)] s.heap.size = A at hD hE ⊢
  have hA : ∀ q : Nat, s.heap.size ≤ q → A q := fun q h => by rw [← hAe]; exact Or.inr h
  have hS : va_S A s.heap s.heap [] := va_S.rf
  have hl := lv_entry ([.ref oM]) (n := 2) (Nat.le_of_ble_eq_true rfl)
  rw [lg_entry_eq]
  generalize (lg_sl ([.ref oM]) ++ List.replicate (2 - (lg_sl ([.ref oM])).length) Slot.unset).toArray = ls at hl ⊢
  have hl : lv_has ls 2 [(0, .ref oM)] := hl
  have hG := PX7_askLeaves_eq iM_hasCourt fM_r fM_told iM_scale iM_night fM_trial fM_often iM_setMany iM_someOf iM_allOf
  have s_slips := r_R.slips
  have s_nodes := r_R.nodes
  have s_uns := r_R.uns
  refine lv_aload_n hx hb dX7_askLeaves_0 rfl (lv_at hl 0 rfl) ?_
  have hFc := va_free (wc := [(oc7 oM iM_thrown rM_tape iM_taped iM_size iM_at iM_end iM_token iM_whole iM_nameSize iM_fault iM_place iM_trouble rM_letters iM_failed iM_hasCourt rM_r rM_fresh rM_told rM_read rM_st rM_undone rM_kept iM_undos iM_images rM_fresher iM_fresherSize iM_scale iM_night rM_heardRow rM_cutRow iM_breaths iM_cutMany iM_allBreaths rM_trial rM_words iM_fewestBreaths iM_orderMany iM_orderSum iM_leastOrder rM_often iM_setMany iM_someOf iM_allOf iM_allWeight iM_enoughWeight iM_worthSum iM_firstRest iM_leastDrawn)]) hD hS hA [0] rfl
  refine va_callv (va_runV (As := []) (rest := []) ⟨hx, hb, hml, hown, hts⟩ (tX7_good l dC dI _ oM iM_thrown rM_tape iM_taped iM_size iM_at iM_end iM_token iM_whole iM_nameSize iM_fault iM_place iM_trouble rM_letters iM_failed iM_hasCourt rM_r rM_fresh rM_told rM_read rM_st rM_undone rM_kept iM_undos iM_images rM_fresher iM_fresherSize iM_scale iM_night rM_heardRow rM_cutRow iM_breaths iM_cutMany iM_allBreaths rM_trial rM_words iM_fewestBreaths iM_orderMany iM_orderSum iM_leastOrder rM_often iM_setMany iM_someOf iM_allOf iM_allWeight iM_enoughWeight iM_worthSum iM_firstRest iM_leastDrawn (by first | omega | decide) (by first | omega | decide) (by first | omega | decide) (by first | omega | decide) (by first | omega | decide) (by first | omega | decide) (by first | omega | decide) (by first | omega | decide) (by first | omega | decide) (by first | omega | decide)) (cwV 0 hts (wd_V wd_388 wd_389 wd_390 wd_5 (wd_c wd_391)) rfl rfl rfl (by decide +kernel) ⟨Nat.le_of_ble_eq_true rfl, Nat.le_of_ble_eq_true rfl⟩) ⟨Pw.fb, va_recv hK hP (ci := 7) (q0 := 0) rfl rfl, fun U hU hW => Pw.to (hP.sub [0] rfl) (hD.sub [0] (by decide) rfl) (hK.sub [] rfl) hE hS hFc hU hW⟩ rfl rfl hl.1 rfl (lv_room (Nat.le_of_ble_eq_true rfl)) dX7_askLeaves_1 ⟨Nat.le_of_ble_eq_true rfl, Nat.le_of_ble_eq_true rfl⟩) hS (fun q _ h => hFc q h) hFc (fun u t H locs ht hvm hw hB hz1 hk1 hS => ?_)
  obtain ⟨x_2886, x_2887, b_x_2886, b_x_2887, e_x_2886_0, hB⟩ := hB
  obtain ⟨hP, hD, hK⟩ := Bw.go (ws' := [(arI rM_r kM_r 287 fM_r), (arI rM_told kM_told 90 fM_told), (arI rM_trial kM_trial 90 fM_trial), (arI rM_often kM_often 4 fM_often), (oc7 oM x_2886 rM_tape iM_taped iM_size iM_at iM_end iM_token iM_whole iM_nameSize iM_fault iM_place x_2887 rM_letters iM_failed iM_hasCourt rM_r rM_fresh rM_told rM_read rM_st rM_undone rM_kept iM_undos iM_images rM_fresher iM_fresherSize iM_scale iM_night rM_heardRow rM_cutRow iM_breaths iM_cutMany iM_allBreaths rM_trial rM_words iM_fewestBreaths iM_orderMany iM_orderSum iM_leastOrder rM_often iM_setMany iM_someOf iM_allOf iM_allWeight iM_enoughWeight iM_worthSum iM_firstRest iM_leastDrawn)]) (tys' := [(kM_r, .int), (kM_told, .int), (kM_trial, .int), (kM_often, .int)]) hB rfl ht hvm hP hD hK [0] [1, 2, 3, 4] rfl (by decide) (by decide) [0, 1, 2, 3] hk1 hFc rfl rfl rfl
  clear hz1 hk1 hvm ht hB
  have hG := hG.trans (un2_eq e_x_2886_0)
  refine lv_aload_n hx hb dX7_askLeaves_4 rfl (lv_at hl 0 rfl) ?_
  rcases (id r_C) with r_C0 | r_C1
  · skip
    refine va_get (D := (dC, dI)) (ci := 7) (v := .int iM_hasCourt) (C := RX7) (T := TX7) (N := 48) hx hb hts inX7 hown hK hP 4 rfl rfl 14 (by decide) (hts _ wd_385) (fun _ h9 => h9) rfl dX7_askLeaves_5 ?_
    refine lv_if_ne (tgt := 17) hx hb dX7_askLeaves_8 (by decide) (fun c_2888 => ?_) (fun c_2888 => ?_)
    · skip
      have hG := hG.trans (if_neg c_2888)
      have gc_2888 := ti_ne c_2888 rfl kc_0
      exfalso; clear hG; omega
    · skip
      have hG := hG.trans (if_pos c_2888)
      have gc_2888 := ti_eq c_2888 rfl kc_0
      refine lv_aload_n hx hb dX7_askLeaves_11 rfl (lv_at hl 0 rfl) ?_
      refine lv_iconst (v := 1) hx hb dX7_askLeaves_12 (by decide) ?_
      have hFc := va_free (wc := [(oc7 oM x_2886 rM_tape iM_taped iM_size iM_at iM_end iM_token iM_whole iM_nameSize iM_fault iM_place x_2887 rM_letters iM_failed iM_hasCourt rM_r rM_fresh rM_told rM_read rM_st rM_undone rM_kept iM_undos iM_images rM_fresher iM_fresherSize iM_scale iM_night rM_heardRow rM_cutRow iM_breaths iM_cutMany iM_allBreaths rM_trial rM_words iM_fewestBreaths iM_orderMany iM_orderSum iM_leastOrder rM_often iM_setMany iM_someOf iM_allOf iM_allWeight iM_enoughWeight iM_worthSum iM_firstRest iM_leastDrawn)]) hD hS hA [4] rfl
      refine va_calli (va_runV (As := [.int 1]) (rest := []) ⟨hx, hb, hml, hown, hts⟩ (tX7_no l dC dI _ oM x_2886 rM_tape iM_taped iM_size iM_at iM_end iM_token iM_whole iM_nameSize iM_fault iM_place x_2887 rM_letters iM_failed iM_hasCourt rM_r rM_fresh rM_told rM_read rM_st rM_undone rM_kept iM_undos iM_images rM_fresher iM_fresherSize iM_scale iM_night rM_heardRow rM_cutRow iM_breaths iM_cutMany iM_allBreaths rM_trial rM_words iM_fewestBreaths iM_orderMany iM_orderSum iM_leastOrder rM_often iM_setMany iM_someOf iM_allOf iM_allWeight iM_enoughWeight iM_worthSum iM_firstRest iM_leastDrawn 1 (by first | omega | decide) (by first | omega | decide) (by first | omega | decide) (by first | omega | decide) (by first | omega | decide) (by first | omega | decide) (by first | omega | decide) (by first | omega | decide) (by first | omega | decide) (by first | omega | decide)) (cwV 1 hts (wd_V wd_396 wd_397 wd_398 wd_5 (wd_c wd_399)) rfl rfl rfl (by decide +kernel) ⟨Nat.le_of_ble_eq_true rfl, Nat.le_of_ble_eq_true rfl⟩) ⟨Pw.fb, va_recv hK hP (ci := 7) (q0 := 4) rfl rfl, fun U hU hW => Pw.to (hP.sub [4] rfl) (hD.sub [4] (by decide) rfl) (hK.sub [] rfl) hE hS hFc hU hW⟩ rfl rfl hl.1 rfl (lv_room (Nat.le_of_ble_eq_true rfl)) dX7_askLeaves_13 ⟨Nat.le_of_ble_eq_true rfl, Nat.le_of_ble_eq_true rfl⟩) hS (fun q _ h => hFc q h) hFc (fun r u t H locs ht hvm hw hB hz1 hk1 hS => ?_)
      have hru9 := hw.2
      have hw := hw.1
      obtain ⟨x_2889, e_x_2889_0, hB⟩ := hB
      obtain ⟨hP, hD, hK⟩ := Bw.go (ws' := [(arI rM_r kM_r 287 fM_r), (arI rM_told kM_told 90 fM_told), (arI rM_trial kM_trial 90 fM_trial), (arI rM_often kM_often 4 fM_often), (oc7 oM x_2886 rM_tape iM_taped iM_size iM_at iM_end iM_token iM_whole iM_nameSize iM_fault iM_place x_2889 rM_letters iM_failed iM_hasCourt rM_r rM_fresh rM_told rM_read rM_st rM_undone rM_kept iM_undos iM_images rM_fresher iM_fresherSize iM_scale iM_night rM_heardRow rM_cutRow iM_breaths iM_cutMany iM_allBreaths rM_trial rM_words iM_fewestBreaths iM_orderMany iM_orderSum iM_leastOrder rM_often iM_setMany iM_someOf iM_allOf iM_allWeight iM_enoughWeight iM_worthSum iM_firstRest iM_leastDrawn)]) (tys' := [(kM_r, .int), (kM_told, .int), (kM_trial, .int), (kM_often, .int)]) hB rfl ht hvm hP hD hK [4] [0, 1, 2, 3] rfl (by decide) (by decide) [0, 1, 2, 3] hk1 hFc rfl rfl rfl
      clear hz1 hk1 hvm ht hB
      rw [← hru9] at e_x_2889_0
      obtain ⟨x_2890, rfl⟩ : ∃ z, z = r := ⟨_, rfl⟩
      have hG := hG.trans (un2_eq e_x_2889_0)
      exact W.iret hx hb hr (fun t ht hW => ⟨⟨_, (cI x_2890), rfl, ⟨⟨trivial, trivial⟩, (cI_of x_2890)⟩, ⟨x_2886, x_2889, iM_setMany, iM_someOf, iM_allOf, fM_trial, fM_often, (cI_tup hG), Bw.to (hP.sub [4, 0, 1, 2, 3] rfl) (hD.sub [4, 0, 1, 2, 3] (by decide) rfl) (hK.sub [0, 1, 2, 3] rfl) ht hW⟩⟩, hS.F ht⟩) hS.2.2 dX7_askLeaves_16
  · skip
    refine va_get (D := (dC, dI)) (ci := 7) (v := .int iM_hasCourt) (C := RX7) (T := TX7) (N := 48) hx hb hts inX7 hown hK hP 4 rfl rfl 14 (by decide) (hts _ wd_385) (fun _ h9 => h9) rfl dX7_askLeaves_5 ?_
    refine lv_if_ne (tgt := 17) hx hb dX7_askLeaves_8 (by decide) (fun c_2891 => ?_) (fun c_2891 => ?_)
    · skip
      have hG := hG.trans (if_neg c_2891)
      have gc_2891 := ti_ne c_2891 rfl kc_0
      refine lv_aload_n hx hb dX7_askLeaves_17 rfl (lv_at hl 0 rfl) ?_
      have hFc := va_free (wc := [(oc7 oM x_2886 rM_tape iM_taped iM_size iM_at iM_end iM_token iM_whole iM_nameSize iM_fault iM_place x_2887 rM_letters iM_failed iM_hasCourt rM_r rM_fresh rM_told rM_read rM_st rM_undone rM_kept iM_undos iM_images rM_fresher iM_fresherSize iM_scale iM_night rM_heardRow rM_cutRow iM_breaths iM_cutMany iM_allBreaths rM_trial rM_words iM_fewestBreaths iM_orderMany iM_orderSum iM_leastOrder rM_often iM_setMany iM_someOf iM_allOf iM_allWeight iM_enoughWeight iM_worthSum iM_firstRest iM_leastDrawn), (arI rM_r kM_r 287 fM_r), (arI rM_told kM_told 90 fM_told), (arI rM_trial kM_trial 90 fM_trial), (arI rM_often kM_often 4 fM_often)]) hD hS hA [4, 0, 1, 2, 3] rfl
      refine va_calli (va_runV (As := []) (rest := []) ⟨hx, hb, hml, hown, hts⟩ (tX7_askedFirst l dC dI _ oM x_2886 rM_tape iM_taped iM_size iM_at iM_end iM_token iM_whole iM_nameSize iM_fault iM_place x_2887 rM_letters iM_failed iM_hasCourt rM_r fM_r kM_r rM_fresh rM_told fM_told kM_told rM_read rM_st rM_undone rM_kept iM_undos iM_images rM_fresher iM_fresherSize iM_scale iM_night rM_heardRow rM_cutRow iM_breaths iM_cutMany iM_allBreaths rM_trial fM_trial kM_trial rM_words iM_fewestBreaths iM_orderMany iM_orderSum iM_leastOrder rM_often fM_often kM_often iM_setMany iM_someOf iM_allOf iM_allWeight iM_enoughWeight iM_worthSum iM_firstRest iM_leastDrawn (by first | omega | decide) (by first | omega | decide) (by first | omega | decide) (by first | omega | decide) (by first | omega | decide) (by first | omega | decide) (by first | omega | decide) (by first | omega | decide) (by first | omega | decide) (by first | omega | decide) (by assumption) (by assumption) (by assumption) (by first | omega | decide | assumption | (have q0 := kc_0; have q1 := kc_1; omega) | (intro h; exact absurd h (by decide)))) (cwV 0 hts (wd_V wd_1238 wd_1239 wd_1240 wd_5 (wd_c wd_1241)) rfl rfl rfl (by decide +kernel) ⟨Nat.le_of_ble_eq_true rfl, Nat.le_of_ble_eq_true rfl⟩) ⟨Pw.fb, va_recv hK hP (ci := 7) (q0 := 4) rfl rfl, fun U hU hW => Pw.to (hP.sub [4, 0, 1, 2, 3] rfl) (hD.sub [4, 0, 1, 2, 3] (by decide) rfl) (hK.sub [0, 1, 2, 3] rfl) hE hS hFc hU hW⟩ rfl rfl hl.1 rfl (lv_room (Nat.le_of_ble_eq_true rfl)) dX7_askLeaves_18 ⟨Nat.le_of_ble_eq_true rfl, Nat.le_of_ble_eq_true rfl⟩) hS (fun q _ h => hFc q h) hFc (fun r u t H locs ht hvm hw hB hz1 hk1 hS => ?_)
      have hru9 := hw.2
      have hw := hw.1
      obtain ⟨x_2892, x_2893, x_2894, f_2895, f_2896, e_x_2892_0, hB⟩ := hB
      obtain ⟨hP, hD, hK⟩ := Bw.go (ws' := [(oc7 oM x_2886 rM_tape iM_taped iM_size iM_at iM_end iM_token iM_whole iM_nameSize iM_fault iM_place x_2887 rM_letters iM_failed iM_hasCourt rM_r rM_fresh rM_told rM_read rM_st rM_undone rM_kept iM_undos iM_images rM_fresher iM_fresherSize iM_scale iM_night rM_heardRow rM_cutRow iM_breaths iM_cutMany iM_allBreaths rM_trial rM_words iM_fewestBreaths iM_orderMany iM_orderSum iM_leastOrder rM_often x_2892 x_2893 x_2894 iM_allWeight iM_enoughWeight iM_worthSum iM_firstRest iM_leastDrawn), (arI rM_r kM_r 287 fM_r), (arI rM_told kM_told 90 fM_told), (arI rM_trial kM_trial 90 f_2895), (arI rM_often kM_often 4 f_2896)]) (tys' := [(kM_r, .int), (kM_told, .int), (kM_trial, .int), (kM_often, .int)]) hB rfl ht hvm hP hD hK [4, 0, 1, 2, 3] [] rfl (by decide) (by decide) [] hk1 hFc rfl rfl rfl
      clear hz1 hk1 hvm ht hB
      rw [← hru9] at e_x_2892_0
      obtain ⟨x_2897, rfl⟩ : ∃ z, z = r := ⟨_, rfl⟩
      have hG := hG.trans (un6_eq e_x_2892_0)
      have ux_2897 := hw.2
      refine lv_istore_n (lv' := [(1, .int x_2897), (0, .ref oM)]) hx hb dX7_askLeaves_21 rfl hl (by decide) rfl (fun ls hl => ?_)
      refine lv_iload_n hx hb dX7_askLeaves_22 rfl (lv_at hl 0 rfl) ?_
      refine lv_if_ge (tgt := 31) hx hb dX7_askLeaves_23 (by decide) (fun c_2898 => ?_) (fun c_2898 => ?_)
      · skip
        have hG := hG.trans (if_pos c_2898)
        have gc_2898 := ti_le c_2898 kc_0 rfl
        refine lv_aload_n hx hb dX7_askLeaves_31 rfl (lv_at hl 1 rfl) ?_
        refine lv_iload_n hx hb dX7_askLeaves_32 rfl (lv_at hl 0 rfl) ?_
        have hFc := va_free (wc := [(oc7 oM x_2886 rM_tape iM_taped iM_size iM_at iM_end iM_token iM_whole iM_nameSize iM_fault iM_place x_2887 rM_letters iM_failed iM_hasCourt rM_r rM_fresh rM_told rM_read rM_st rM_undone rM_kept iM_undos iM_images rM_fresher iM_fresherSize iM_scale iM_night rM_heardRow rM_cutRow iM_breaths iM_cutMany iM_allBreaths rM_trial rM_words iM_fewestBreaths iM_orderMany iM_orderSum iM_leastOrder rM_often x_2892 x_2893 x_2894 iM_allWeight iM_enoughWeight iM_worthSum iM_firstRest iM_leastDrawn), (arI rM_often kM_often 4 f_2896)]) hD hS hA [0, 4] rfl
        refine va_calli (va_runV (As := [.int x_2897]) (rest := []) ⟨hx, hb, hml, hown, hts⟩ (tX7_leavesOf l dC dI _ oM x_2886 rM_tape iM_taped iM_size iM_at iM_end iM_token iM_whole iM_nameSize iM_fault iM_place x_2887 rM_letters iM_failed iM_hasCourt rM_r rM_fresh rM_told rM_read rM_st rM_undone rM_kept iM_undos iM_images rM_fresher iM_fresherSize iM_scale iM_night rM_heardRow rM_cutRow iM_breaths iM_cutMany iM_allBreaths rM_trial rM_words iM_fewestBreaths iM_orderMany iM_orderSum iM_leastOrder rM_often f_2896 kM_often x_2892 x_2893 x_2894 iM_allWeight iM_enoughWeight iM_worthSum iM_firstRest iM_leastDrawn x_2897 (by first | omega | decide) (by first | omega | decide) (by first | omega | decide) (by first | omega | decide) (by first | omega | decide) (by first | omega | decide) (by first | omega | decide) (by first | omega | decide) (by first | omega | decide) (by first | omega | decide) (by first | omega | decide | assumption | (have q0 := kc_0; have q1 := kc_1; omega) | (intro h; exact absurd h (by decide)))) (cwV 1 hts (wd_V wd_1242 wd_1243 wd_1244 wd_5 (wd_c wd_1245)) rfl rfl rfl (by decide +kernel) ⟨Nat.le_of_ble_eq_true rfl, Nat.le_of_ble_eq_true rfl⟩) ⟨Pw.fb, va_recv hK hP (ci := 7) (q0 := 0) rfl rfl, fun U hU hW => Pw.to (hP.sub [0, 4] rfl) (hD.sub [0, 4] (by decide) rfl) (hK.sub [3] rfl) hE hS hFc hU hW⟩ rfl rfl hl.1 rfl (lv_room (Nat.le_of_ble_eq_true rfl)) dX7_askLeaves_33 ⟨Nat.le_of_ble_eq_true rfl, Nat.le_of_ble_eq_true rfl⟩) hS (fun q _ h => hFc q h) hFc (fun r u t H locs ht hvm hw hB hz1 hk1 hS => ?_)
        have hru9 := hw.2
        have hw := hw.1
        obtain ⟨hP, hD, hK⟩ := Bw.go (ws' := [(arI rM_r kM_r 287 fM_r), (arI rM_told kM_told 90 fM_told), (arI rM_trial kM_trial 90 f_2895), (oc7 oM x_2886 rM_tape iM_taped iM_size iM_at iM_end iM_token iM_whole iM_nameSize iM_fault iM_place x_2887 rM_letters iM_failed iM_hasCourt rM_r rM_fresh rM_told rM_read rM_st rM_undone rM_kept iM_undos iM_images rM_fresher iM_fresherSize iM_scale iM_night rM_heardRow rM_cutRow iM_breaths iM_cutMany iM_allBreaths rM_trial rM_words iM_fewestBreaths iM_orderMany iM_orderSum iM_leastOrder rM_often x_2892 x_2893 x_2894 iM_allWeight iM_enoughWeight iM_worthSum iM_firstRest iM_leastDrawn), (arI rM_often kM_often 4 f_2896)]) (tys' := [(kM_r, .int), (kM_told, .int), (kM_trial, .int), (kM_often, .int)]) hB rfl ht hvm hP hD hK [0, 4] [1, 2, 3] rfl (by decide) (by decide) [0, 1, 2] hk1 hFc rfl rfl rfl
        clear hz1 hk1 hvm ht hB
        obtain ⟨x_2899, rfl⟩ : ∃ z, z = r := ⟨_, rfl⟩
        have hG := hG.trans (lt_eq hru9.symm)
        exact W.iret hx hb hr (fun t ht hW => ⟨⟨_, (cI x_2899), rfl, ⟨⟨trivial, trivial⟩, (cI_of x_2899)⟩, ⟨x_2886, x_2887, x_2892, x_2893, x_2894, f_2895, f_2896, (cI_tup hG), Bw.to (hP.sub [3, 0, 1, 2, 4] rfl) (hD.sub [3, 0, 1, 2, 4] (by decide) rfl) (hK.sub [0, 1, 2, 3] rfl) ht hW⟩⟩, hS.F ht⟩) hS.2.2 dX7_askLeaves_36
      · skip
        have hG := hG.trans (if_neg c_2898)
        have gc_2898 := ti_nle c_2898 kc_0 rfl
        refine lv_bipush (v := (-2)) hx hb dX7_askLeaves_26 (by decide) ?_
        refine lv_goto (tgt := 36) hx hb dX7_askLeaves_28 (by decide) ?_
        exact W.iret hx hb hr (fun t ht hW => ⟨⟨_, (cI (-2)), rfl, ⟨⟨trivial, trivial⟩, (cI_of (-2))⟩, ⟨x_2886, x_2887, x_2892, x_2893, x_2894, f_2895, f_2896, (cI_tup hG), Bw.to (hP.sub [0, 1, 2, 3, 4] rfl) (hD.sub [0, 1, 2, 3, 4] (by decide) rfl) (hK.sub [0, 1, 2, 3] rfl) ht hW⟩⟩, hS.F ht⟩) hS.2.2 dX7_askLeaves_36
    · skip
      have hG := hG.trans (if_pos c_2891)
      have gc_2891 := ti_eq c_2891 rfl kc_0
      refine lv_aload_n hx hb dX7_askLeaves_11 rfl (lv_at hl 0 rfl) ?_
      refine lv_iconst (v := 1) hx hb dX7_askLeaves_12 (by decide) ?_
      have hFc := va_free (wc := [(oc7 oM x_2886 rM_tape iM_taped iM_size iM_at iM_end iM_token iM_whole iM_nameSize iM_fault iM_place x_2887 rM_letters iM_failed iM_hasCourt rM_r rM_fresh rM_told rM_read rM_st rM_undone rM_kept iM_undos iM_images rM_fresher iM_fresherSize iM_scale iM_night rM_heardRow rM_cutRow iM_breaths iM_cutMany iM_allBreaths rM_trial rM_words iM_fewestBreaths iM_orderMany iM_orderSum iM_leastOrder rM_often iM_setMany iM_someOf iM_allOf iM_allWeight iM_enoughWeight iM_worthSum iM_firstRest iM_leastDrawn)]) hD hS hA [4] rfl
      refine va_calli (va_runV (As := [.int 1]) (rest := []) ⟨hx, hb, hml, hown, hts⟩ (tX7_no l dC dI _ oM x_2886 rM_tape iM_taped iM_size iM_at iM_end iM_token iM_whole iM_nameSize iM_fault iM_place x_2887 rM_letters iM_failed iM_hasCourt rM_r rM_fresh rM_told rM_read rM_st rM_undone rM_kept iM_undos iM_images rM_fresher iM_fresherSize iM_scale iM_night rM_heardRow rM_cutRow iM_breaths iM_cutMany iM_allBreaths rM_trial rM_words iM_fewestBreaths iM_orderMany iM_orderSum iM_leastOrder rM_often iM_setMany iM_someOf iM_allOf iM_allWeight iM_enoughWeight iM_worthSum iM_firstRest iM_leastDrawn 1 (by first | omega | decide) (by first | omega | decide) (by first | omega | decide) (by first | omega | decide) (by first | omega | decide) (by first | omega | decide) (by first | omega | decide) (by first | omega | decide) (by first | omega | decide) (by first | omega | decide)) (cwV 1 hts (wd_V wd_396 wd_397 wd_398 wd_5 (wd_c wd_399)) rfl rfl rfl (by decide +kernel) ⟨Nat.le_of_ble_eq_true rfl, Nat.le_of_ble_eq_true rfl⟩) ⟨Pw.fb, va_recv hK hP (ci := 7) (q0 := 4) rfl rfl, fun U hU hW => Pw.to (hP.sub [4] rfl) (hD.sub [4] (by decide) rfl) (hK.sub [] rfl) hE hS hFc hU hW⟩ rfl rfl hl.1 rfl (lv_room (Nat.le_of_ble_eq_true rfl)) dX7_askLeaves_13 ⟨Nat.le_of_ble_eq_true rfl, Nat.le_of_ble_eq_true rfl⟩) hS (fun q _ h => hFc q h) hFc (fun r u t H locs ht hvm hw hB hz1 hk1 hS => ?_)
      have hru9 := hw.2
      have hw := hw.1
      obtain ⟨x_2900, e_x_2900_0, hB⟩ := hB
      obtain ⟨hP, hD, hK⟩ := Bw.go (ws' := [(arI rM_r kM_r 287 fM_r), (arI rM_told kM_told 90 fM_told), (arI rM_trial kM_trial 90 fM_trial), (arI rM_often kM_often 4 fM_often), (oc7 oM x_2886 rM_tape iM_taped iM_size iM_at iM_end iM_token iM_whole iM_nameSize iM_fault iM_place x_2900 rM_letters iM_failed iM_hasCourt rM_r rM_fresh rM_told rM_read rM_st rM_undone rM_kept iM_undos iM_images rM_fresher iM_fresherSize iM_scale iM_night rM_heardRow rM_cutRow iM_breaths iM_cutMany iM_allBreaths rM_trial rM_words iM_fewestBreaths iM_orderMany iM_orderSum iM_leastOrder rM_often iM_setMany iM_someOf iM_allOf iM_allWeight iM_enoughWeight iM_worthSum iM_firstRest iM_leastDrawn)]) (tys' := [(kM_r, .int), (kM_told, .int), (kM_trial, .int), (kM_often, .int)]) hB rfl ht hvm hP hD hK [4] [0, 1, 2, 3] rfl (by decide) (by decide) [0, 1, 2, 3] hk1 hFc rfl rfl rfl
      clear hz1 hk1 hvm ht hB
      rw [← hru9] at e_x_2900_0
      obtain ⟨x_2901, rfl⟩ : ∃ z, z = r := ⟨_, rfl⟩
      have hG := hG.trans (un2_eq e_x_2900_0)
      exact W.iret hx hb hr (fun t ht hW => ⟨⟨_, (cI x_2901), rfl, ⟨⟨trivial, trivial⟩, (cI_of x_2901)⟩, ⟨x_2886, x_2900, iM_setMany, iM_someOf, iM_allOf, fM_trial, fM_often, (cI_tup hG), Bw.to (hP.sub [4, 0, 1, 2, 3] rfl) (hD.sub [4, 0, 1, 2, 3] (by decide) rfl) (hK.sub [0, 1, 2, 3] rfl) ht hW⟩⟩, hS.F ht⟩) hS.2.2 dX7_askLeaves_16
set_option maxHeartbeats 4000000 in
set_option maxRecDepth 100000 in
theorem tX7_fitAt (l : Launch) (dC : Nat → ClassId) (dI : Nat → Nat → Nat) (sz : Nat) (oM : Nat) (iM_thrown : Int32) (rM_tape : Nat) (iM_taped : Int32) (iM_size : Int32) (iM_at : Int32) (iM_end : Int32) (iM_token : Int32) (iM_whole : Int32) (iM_nameSize : Int32) (iM_fault : Int32) (iM_place : Int32) (iM_trouble : Int32) (rM_letters : Nat) (iM_failed : Int32) (iM_hasCourt : Int32) (rM_r : Nat) (fM_r : Nat → Int32) (kM_r : ClassId) (rM_fresh : Nat) (rM_told : Nat) (fM_told : Nat → Int32) (kM_told : ClassId) (rM_read : Nat) (rM_st : Nat) (rM_undone : Nat) (rM_kept : Nat) (iM_undos : Int32) (iM_images : Int32) (rM_fresher : Nat) (iM_fresherSize : Int32) (iM_scale : Int32) (iM_night : Int32) (rM_heardRow : Nat) (rM_cutRow : Nat) (iM_breaths : Int32) (iM_cutMany : Int32) (iM_allBreaths : Int32) (rM_trial : Nat) (fM_trial : Nat → Int32) (kM_trial : ClassId) (rM_words : Nat) (iM_fewestBreaths : Int32) (iM_orderMany : Int32) (iM_orderSum : Int32) (iM_leastOrder : Int32) (rM_often : Nat) (fM_often : Nat → Int32) (kM_often : ClassId) (iM_setMany : Int32) (iM_someOf : Int32) (iM_allOf : Int32) (iM_allWeight : Int64) (iM_enoughWeight : Int64) (iM_worthSum : Int64) (iM_firstRest : Int32) (iM_leastDrawn : Int32) (p0 : Int32) (b_iM_taped : 0 ≤ iM_taped.toInt ∧ iM_taped.toInt ≤ 900) (b_iM_size : 0 ≤ iM_size.toInt ∧ iM_size.toInt ≤ 900) (b_iM_end : 0 ≤ iM_end.toInt ∧ iM_end.toInt ≤ 900) (b_iM_failed : 0 ≤ iM_failed.toInt ∧ iM_failed.toInt ≤ 1) (b_iM_hasCourt : 0 ≤ iM_hasCourt.toInt ∧ iM_hasCourt.toInt ≤ 1) (b_iM_undos : 0 ≤ iM_undos.toInt ∧ iM_undos.toInt ≤ 16) (b_iM_images : 0 ≤ iM_images.toInt ∧ iM_images.toInt ≤ 3) (b_iM_scale : 1 ≤ iM_scale.toInt ∧ iM_scale.toInt ≤ 1296) (b_iM_breaths : 0 ≤ iM_breaths.toInt ∧ iM_breaths.toInt ≤ 399) (b_iM_cutMany : 0 ≤ iM_cutMany.toInt ∧ iM_cutMany.toInt ≤ 399) (r_R : ROk fM_r) (r_C : iM_hasCourt.toInt ≤ 0 ∨ (1 ≤ (fM_r 1).toInt ∧ 0 ≤ (fM_r 6).toInt ∧ (fM_r 6).toInt < (fM_r 1).toInt)) (r_told : RowOk fM_r fM_told)  : Met l yX7_fitAt (Cond.code yX7_fitAt cX7_fitAt 3 (some .int) :: wG) ({ frames := 24, cells := 0, slots := 0, locals := 630 }) (va_Pc [.ref oM, .int p0] (Pw dC dI sz [(oc7 oM iM_thrown rM_tape iM_taped iM_size iM_at iM_end iM_token iM_whole iM_nameSize iM_fault iM_place iM_trouble rM_letters iM_failed iM_hasCourt rM_r rM_fresh rM_told rM_read rM_st rM_undone rM_kept iM_undos iM_images rM_fresher iM_fresherSize iM_scale iM_night rM_heardRow rM_cutRow iM_breaths iM_cutMany iM_allBreaths rM_trial rM_words iM_fewestBreaths iM_orderMany iM_orderSum iM_leastOrder rM_often iM_setMany iM_someOf iM_allOf iM_allWeight iM_enoughWeight iM_worthSum iM_firstRest iM_leastDrawn), (arI rM_r kM_r 287 fM_r), (arI rM_told kM_told 90 fM_told), (arI rM_trial kM_trial 90 fM_trial), (arI rM_often kM_often 4 fM_often)] [(kM_r, .int), (kM_told, .int), (kM_trial, .int), (kM_often, .int)])) (va_Qi (fun (r : Int32) (u : Nat) => (True ∧ True) ∧ r = Int32.ofNat u) (fun (u : Nat) (t : State) => ∃ (niM_thrown : Int32) (niM_trouble : Int32) (niM_setMany : Int32) (niM_someOf : Int32) (niM_allOf : Int32) (nfM_trial : Nat → Int32) (nfM_often : Nat → Int32), (PX7_fitAt iM_hasCourt fM_r fM_told iM_scale iM_night fM_trial fM_often iM_setMany iM_someOf iM_allOf p0 = (Int32.ofNat u, niM_thrown, niM_trouble, niM_setMany, niM_someOf, niM_allOf, nfM_trial, nfM_often)) ∧ Bw dC dI (va_A [(oc7 oM iM_thrown rM_tape iM_taped iM_size iM_at iM_end iM_token iM_whole iM_nameSize iM_fault iM_place iM_trouble rM_letters iM_failed iM_hasCourt rM_r rM_fresh rM_told rM_read rM_st rM_undone rM_kept iM_undos iM_images rM_fresher iM_fresherSize iM_scale iM_night rM_heardRow rM_cutRow iM_breaths iM_cutMany iM_allBreaths rM_trial rM_words iM_fewestBreaths iM_orderMany iM_orderSum iM_leastOrder rM_often iM_setMany iM_someOf iM_allOf iM_allWeight iM_enoughWeight iM_worthSum iM_firstRest iM_leastDrawn), (arI rM_r kM_r 287 fM_r), (arI rM_told kM_told 90 fM_told), (arI rM_trial kM_trial 90 fM_trial), (arI rM_often kM_often 4 fM_often)] sz) [(oc7 oM niM_thrown rM_tape iM_taped iM_size iM_at iM_end iM_token iM_whole iM_nameSize iM_fault iM_place niM_trouble rM_letters iM_failed iM_hasCourt rM_r rM_fresh rM_told rM_read rM_st rM_undone rM_kept iM_undos iM_images rM_fresher iM_fresherSize iM_scale iM_night rM_heardRow rM_cutRow iM_breaths iM_cutMany iM_allBreaths rM_trial rM_words iM_fewestBreaths iM_orderMany iM_orderSum iM_leastOrder rM_often niM_setMany niM_someOf niM_allOf iM_allWeight iM_enoughWeight iM_worthSum iM_firstRest iM_leastDrawn), (arI rM_r kM_r 287 fM_r), (arI rM_told kM_told 90 fM_told), (arI rM_trial kM_trial 90 nfM_trial), (arI rM_often kM_often 4 nfM_often)] [(kM_r, .int), (kM_told, .int), (kM_trial, .int), (kM_often, .int)] t) (va_A [(oc7 oM iM_thrown rM_tape iM_taped iM_size iM_at iM_end iM_token iM_whole iM_nameSize iM_fault iM_place iM_trouble rM_letters iM_failed iM_hasCourt rM_r rM_fresh rM_told rM_read rM_st rM_undone rM_kept iM_undos iM_images rM_fresher iM_fresherSize iM_scale iM_night rM_heardRow rM_cutRow iM_breaths iM_cutMany iM_allBreaths rM_trial rM_words iM_fewestBreaths iM_orderMany iM_orderSum iM_leastOrder rM_often iM_setMany iM_someOf iM_allOf iM_allWeight iM_enoughWeight iM_worthSum iM_firstRest iM_leastDrawn), (arI rM_r kM_r 287 fM_r), (arI rM_told kM_told 90 fM_told), (arI rM_trial kM_trial 90 fM_trial), (arI rM_often kM_often 4 fM_often)] sz)) 0 0 (va_A [(oc7 oM iM_thrown rM_tape iM_taped iM_size iM_at iM_end iM_token iM_whole iM_nameSize iM_fault iM_place iM_trouble rM_letters iM_failed iM_hasCourt rM_r rM_fresh rM_told rM_read rM_st rM_undone rM_kept iM_undos iM_images rM_fresher iM_fresherSize iM_scale iM_night rM_heardRow rM_cutRow iM_breaths iM_cutMany iM_allBreaths rM_trial rM_words iM_fewestBreaths iM_orderMany iM_orderSum iM_leastOrder rM_often iM_setMany iM_someOf iM_allOf iM_allWeight iM_enoughWeight iM_worthSum iM_firstRest iM_leastDrawn), (arI rM_r kM_r 287 fM_r), (arI rM_told kM_told 90 fM_told), (arI rM_trial kM_trial 90 fM_trial), (arI rM_often kM_often 4 fM_often)] sz) := by
  refine Met.ofW (cc := cX7_fitAt) (maxL := 3) (ret := (some .int)) (by decide) rfl ?_
  intro p e s m args below meth c s₁ B hml hv
  obtain ⟨rfl, hsz, hP, hK, hD0, hE⟩ := hv
  have hx := B.exec
  have hb := B.bytes
  have hr := B.returns
  have hts : ∀ w ∈ wG, w.before ([.ref oM, .int p0] : List Value).toArray s = true := fun w h => atoms_spec (ws := Cond.code yX7_fitAt cX7_fitAt 3 (some .int) :: wG) B.pre w (List.mem_cons_of_mem _ h)
  have hown : s.vm.findClass RX7 = some m.cls := findClass_of_methodNamed B.named
  have hlocks := B.notSynchronized
  subst hsz
  have hD := hD0.self (sz := s.heap.size)
  generalize hAe : va_A [(oc7 oM iM_thrown rM_tape iM_taped iM_size iM_at iM_end iM_token iM_whole iM_nameSize iM_fault iM_place iM_trouble rM_letters iM_failed iM_hasCourt rM_r rM_fresh rM_told rM_read rM_st rM_undone rM_kept iM_undos iM_images rM_fresher iM_fresherSize iM_scale iM_night rM_heardRow rM_cutRow iM_breaths iM_cutMany iM_allBreaths rM_trial rM_words iM_fewestBreaths iM_orderMany iM_orderSum iM_leastOrder rM_often iM_setMany iM_someOf iM_allOf iM_allWeight iM_enoughWeight iM_worthSum iM_firstRest iM_leastDrawn), (arI rM_r kM_r 287 fM_r), (arI rM_told kM_told 90 fM_told), (arI rM_trial kM_trial 90 fM_trial), (arI rM_often kM_often 4 fM_often)] s.heap.size = A at hD hE ⊢
  have hA : ∀ q : Nat, s.heap.size ≤ q → A q := fun q h => by rw [← hAe]; exact Or.inr h
  have hS : va_S A s.heap s.heap [] := va_S.rf
  have hl := lv_entry ([.ref oM, .int p0]) (n := 3) (Nat.le_of_ble_eq_true rfl)
  rw [lg_entry_eq]
  generalize (lg_sl ([.ref oM, .int p0]) ++ List.replicate (3 - (lg_sl ([.ref oM, .int p0])).length) Slot.unset).toArray = ls at hl ⊢
  have hl : lv_has ls 3 [(0, .ref oM), (1, .int p0)] := hl
  have hG := PX7_fitAt_eq iM_hasCourt fM_r fM_told iM_scale iM_night fM_trial fM_often iM_setMany iM_someOf iM_allOf p0
  have s_slips := r_R.slips
  have s_nodes := r_R.nodes
  have s_uns := r_R.uns
  refine lv_aload_n hx hb dX7_fitAt_0 rfl (lv_at hl 0 rfl) ?_
  have hFc := va_free (wc := [(oc7 oM iM_thrown rM_tape iM_taped iM_size iM_at iM_end iM_token iM_whole iM_nameSize iM_fault iM_place iM_trouble rM_letters iM_failed iM_hasCourt rM_r rM_fresh rM_told rM_read rM_st rM_undone rM_kept iM_undos iM_images rM_fresher iM_fresherSize iM_scale iM_night rM_heardRow rM_cutRow iM_breaths iM_cutMany iM_allBreaths rM_trial rM_words iM_fewestBreaths iM_orderMany iM_orderSum iM_leastOrder rM_often iM_setMany iM_someOf iM_allOf iM_allWeight iM_enoughWeight iM_worthSum iM_firstRest iM_leastDrawn)]) hD hS hA [0] rfl
  refine va_callv (va_runV (As := []) (rest := []) ⟨hx, hb, hml, hown, hts⟩ (tX7_good l dC dI _ oM iM_thrown rM_tape iM_taped iM_size iM_at iM_end iM_token iM_whole iM_nameSize iM_fault iM_place iM_trouble rM_letters iM_failed iM_hasCourt rM_r rM_fresh rM_told rM_read rM_st rM_undone rM_kept iM_undos iM_images rM_fresher iM_fresherSize iM_scale iM_night rM_heardRow rM_cutRow iM_breaths iM_cutMany iM_allBreaths rM_trial rM_words iM_fewestBreaths iM_orderMany iM_orderSum iM_leastOrder rM_often iM_setMany iM_someOf iM_allOf iM_allWeight iM_enoughWeight iM_worthSum iM_firstRest iM_leastDrawn (by first | omega | decide) (by first | omega | decide) (by first | omega | decide) (by first | omega | decide) (by first | omega | decide) (by first | omega | decide) (by first | omega | decide) (by first | omega | decide) (by first | omega | decide) (by first | omega | decide)) (cwV 0 hts (wd_V wd_388 wd_389 wd_390 wd_5 (wd_c wd_391)) rfl rfl rfl (by decide +kernel) ⟨Nat.le_of_ble_eq_true rfl, Nat.le_of_ble_eq_true rfl⟩) ⟨Pw.fb, va_recv hK hP (ci := 7) (q0 := 0) rfl rfl, fun U hU hW => Pw.to (hP.sub [0] rfl) (hD.sub [0] (by decide) rfl) (hK.sub [] rfl) hE hS hFc hU hW⟩ rfl rfl hl.1 rfl (lv_room (Nat.le_of_ble_eq_true rfl)) dX7_fitAt_1 ⟨Nat.le_of_ble_eq_true rfl, Nat.le_of_ble_eq_true rfl⟩) hS (fun q _ h => hFc q h) hFc (fun u t H locs ht hvm hw hB hz1 hk1 hS => ?_)
  obtain ⟨x_2922, x_2923, b_x_2922, b_x_2923, e_x_2922_0, hB⟩ := hB
  obtain ⟨hP, hD, hK⟩ := Bw.go (ws' := [(arI rM_r kM_r 287 fM_r), (arI rM_told kM_told 90 fM_told), (arI rM_trial kM_trial 90 fM_trial), (arI rM_often kM_often 4 fM_often), (oc7 oM x_2922 rM_tape iM_taped iM_size iM_at iM_end iM_token iM_whole iM_nameSize iM_fault iM_place x_2923 rM_letters iM_failed iM_hasCourt rM_r rM_fresh rM_told rM_read rM_st rM_undone rM_kept iM_undos iM_images rM_fresher iM_fresherSize iM_scale iM_night rM_heardRow rM_cutRow iM_breaths iM_cutMany iM_allBreaths rM_trial rM_words iM_fewestBreaths iM_orderMany iM_orderSum iM_leastOrder rM_often iM_setMany iM_someOf iM_allOf iM_allWeight iM_enoughWeight iM_worthSum iM_firstRest iM_leastDrawn)]) (tys' := [(kM_r, .int), (kM_told, .int), (kM_trial, .int), (kM_often, .int)]) hB rfl ht hvm hP hD hK [0] [1, 2, 3, 4] rfl (by decide) (by decide) [0, 1, 2, 3] hk1 hFc rfl rfl rfl
  clear hz1 hk1 hvm ht hB
  have hG := hG.trans (un2_eq e_x_2922_0)
  refine lv_aload_n hx hb dX7_fitAt_4 rfl (lv_at hl 0 rfl) ?_
  rcases (id r_C) with r_C0 | r_C1
  · skip
    refine va_get (D := (dC, dI)) (ci := 7) (v := .int iM_hasCourt) (C := RX7) (T := TX7) (N := 48) hx hb hts inX7 hown hK hP 4 rfl rfl 14 (by decide) (hts _ wd_385) (fun _ h9 => h9) rfl dX7_fitAt_5 ?_
    refine lv_if_eq (tgt := 15) hx hb dX7_fitAt_8 (by decide) (fun c_2924 => ?_) (fun c_2924 => ?_)
    · skip
      have hG := hG.trans (if_pos c_2924)
      have gc_2924 := ti_eq c_2924 rfl kc_0
      refine lv_aload_n hx hb dX7_fitAt_15 rfl (lv_at hl 0 rfl) ?_
      refine lv_iconst (v := 1) hx hb dX7_fitAt_16 (by decide) ?_
      have hFc := va_free (wc := [(oc7 oM x_2922 rM_tape iM_taped iM_size iM_at iM_end iM_token iM_whole iM_nameSize iM_fault iM_place x_2923 rM_letters iM_failed iM_hasCourt rM_r rM_fresh rM_told rM_read rM_st rM_undone rM_kept iM_undos iM_images rM_fresher iM_fresherSize iM_scale iM_night rM_heardRow rM_cutRow iM_breaths iM_cutMany iM_allBreaths rM_trial rM_words iM_fewestBreaths iM_orderMany iM_orderSum iM_leastOrder rM_often iM_setMany iM_someOf iM_allOf iM_allWeight iM_enoughWeight iM_worthSum iM_firstRest iM_leastDrawn)]) hD hS hA [4] rfl
      refine va_calli (va_runV (As := [.int 1]) (rest := []) ⟨hx, hb, hml, hown, hts⟩ (tX7_no l dC dI _ oM x_2922 rM_tape iM_taped iM_size iM_at iM_end iM_token iM_whole iM_nameSize iM_fault iM_place x_2923 rM_letters iM_failed iM_hasCourt rM_r rM_fresh rM_told rM_read rM_st rM_undone rM_kept iM_undos iM_images rM_fresher iM_fresherSize iM_scale iM_night rM_heardRow rM_cutRow iM_breaths iM_cutMany iM_allBreaths rM_trial rM_words iM_fewestBreaths iM_orderMany iM_orderSum iM_leastOrder rM_often iM_setMany iM_someOf iM_allOf iM_allWeight iM_enoughWeight iM_worthSum iM_firstRest iM_leastDrawn 1 (by first | omega | decide) (by first | omega | decide) (by first | omega | decide) (by first | omega | decide) (by first | omega | decide) (by first | omega | decide) (by first | omega | decide) (by first | omega | decide) (by first | omega | decide) (by first | omega | decide)) (cwV 1 hts (wd_V wd_396 wd_397 wd_398 wd_5 (wd_c wd_399)) rfl rfl rfl (by decide +kernel) ⟨Nat.le_of_ble_eq_true rfl, Nat.le_of_ble_eq_true rfl⟩) ⟨Pw.fb, va_recv hK hP (ci := 7) (q0 := 4) rfl rfl, fun U hU hW => Pw.to (hP.sub [4] rfl) (hD.sub [4] (by decide) rfl) (hK.sub [] rfl) hE hS hFc hU hW⟩ rfl rfl hl.1 rfl (lv_room (Nat.le_of_ble_eq_true rfl)) dX7_fitAt_17 ⟨Nat.le_of_ble_eq_true rfl, Nat.le_of_ble_eq_true rfl⟩) hS (fun q _ h => hFc q h) hFc (fun r u t H locs ht hvm hw hB hz1 hk1 hS => ?_)
      have hru9 := hw.2
      have hw := hw.1
      obtain ⟨x_2925, e_x_2925_0, hB⟩ := hB
      obtain ⟨hP, hD, hK⟩ := Bw.go (ws' := [(arI rM_r kM_r 287 fM_r), (arI rM_told kM_told 90 fM_told), (arI rM_trial kM_trial 90 fM_trial), (arI rM_often kM_often 4 fM_often), (oc7 oM x_2922 rM_tape iM_taped iM_size iM_at iM_end iM_token iM_whole iM_nameSize iM_fault iM_place x_2925 rM_letters iM_failed iM_hasCourt rM_r rM_fresh rM_told rM_read rM_st rM_undone rM_kept iM_undos iM_images rM_fresher iM_fresherSize iM_scale iM_night rM_heardRow rM_cutRow iM_breaths iM_cutMany iM_allBreaths rM_trial rM_words iM_fewestBreaths iM_orderMany iM_orderSum iM_leastOrder rM_often iM_setMany iM_someOf iM_allOf iM_allWeight iM_enoughWeight iM_worthSum iM_firstRest iM_leastDrawn)]) (tys' := [(kM_r, .int), (kM_told, .int), (kM_trial, .int), (kM_often, .int)]) hB rfl ht hvm hP hD hK [4] [0, 1, 2, 3] rfl (by decide) (by decide) [0, 1, 2, 3] hk1 hFc rfl rfl rfl
      clear hz1 hk1 hvm ht hB
      rw [← hru9] at e_x_2925_0
      obtain ⟨x_2926, rfl⟩ : ∃ z, z = r := ⟨_, rfl⟩
      have hG := hG.trans (un2_eq e_x_2925_0)
      exact W.iret hx hb hr (fun t ht hW => ⟨⟨_, (cI x_2926), rfl, ⟨⟨trivial, trivial⟩, (cI_of x_2926)⟩, ⟨x_2922, x_2925, iM_setMany, iM_someOf, iM_allOf, fM_trial, fM_often, (cI_tup hG), Bw.to (hP.sub [4, 0, 1, 2, 3] rfl) (hD.sub [4, 0, 1, 2, 3] (by decide) rfl) (hK.sub [0, 1, 2, 3] rfl) ht hW⟩⟩, hS.F ht⟩) hS.2.2 dX7_fitAt_20
    · skip
      have hG := hG.trans (if_neg c_2924)
      have gc_2924 := ti_ne c_2924 rfl kc_0
      exfalso; clear hG; omega
  · skip
    refine va_get (D := (dC, dI)) (ci := 7) (v := .int iM_hasCourt) (C := RX7) (T := TX7) (N := 48) hx hb hts inX7 hown hK hP 4 rfl rfl 14 (by decide) (hts _ wd_385) (fun _ h9 => h9) rfl dX7_fitAt_5 ?_
    refine lv_if_eq (tgt := 15) hx hb dX7_fitAt_8 (by decide) (fun c_2927 => ?_) (fun c_2927 => ?_)
    · skip
      have hG := hG.trans (if_pos c_2927)
      have gc_2927 := ti_eq c_2927 rfl kc_0
      refine lv_aload_n hx hb dX7_fitAt_15 rfl (lv_at hl 0 rfl) ?_
      refine lv_iconst (v := 1) hx hb dX7_fitAt_16 (by decide) ?_
      have hFc := va_free (wc := [(oc7 oM x_2922 rM_tape iM_taped iM_size iM_at iM_end iM_token iM_whole iM_nameSize iM_fault iM_place x_2923 rM_letters iM_failed iM_hasCourt rM_r rM_fresh rM_told rM_read rM_st rM_undone rM_kept iM_undos iM_images rM_fresher iM_fresherSize iM_scale iM_night rM_heardRow rM_cutRow iM_breaths iM_cutMany iM_allBreaths rM_trial rM_words iM_fewestBreaths iM_orderMany iM_orderSum iM_leastOrder rM_often iM_setMany iM_someOf iM_allOf iM_allWeight iM_enoughWeight iM_worthSum iM_firstRest iM_leastDrawn)]) hD hS hA [4] rfl
      refine va_calli (va_runV (As := [.int 1]) (rest := []) ⟨hx, hb, hml, hown, hts⟩ (tX7_no l dC dI _ oM x_2922 rM_tape iM_taped iM_size iM_at iM_end iM_token iM_whole iM_nameSize iM_fault iM_place x_2923 rM_letters iM_failed iM_hasCourt rM_r rM_fresh rM_told rM_read rM_st rM_undone rM_kept iM_undos iM_images rM_fresher iM_fresherSize iM_scale iM_night rM_heardRow rM_cutRow iM_breaths iM_cutMany iM_allBreaths rM_trial rM_words iM_fewestBreaths iM_orderMany iM_orderSum iM_leastOrder rM_often iM_setMany iM_someOf iM_allOf iM_allWeight iM_enoughWeight iM_worthSum iM_firstRest iM_leastDrawn 1 (by first | omega | decide) (by first | omega | decide) (by first | omega | decide) (by first | omega | decide) (by first | omega | decide) (by first | omega | decide) (by first | omega | decide) (by first | omega | decide) (by first | omega | decide) (by first | omega | decide)) (cwV 1 hts (wd_V wd_396 wd_397 wd_398 wd_5 (wd_c wd_399)) rfl rfl rfl (by decide +kernel) ⟨Nat.le_of_ble_eq_true rfl, Nat.le_of_ble_eq_true rfl⟩) ⟨Pw.fb, va_recv hK hP (ci := 7) (q0 := 4) rfl rfl, fun U hU hW => Pw.to (hP.sub [4] rfl) (hD.sub [4] (by decide) rfl) (hK.sub [] rfl) hE hS hFc hU hW⟩ rfl rfl hl.1 rfl (lv_room (Nat.le_of_ble_eq_true rfl)) dX7_fitAt_17 ⟨Nat.le_of_ble_eq_true rfl, Nat.le_of_ble_eq_true rfl⟩) hS (fun q _ h => hFc q h) hFc (fun r u t H locs ht hvm hw hB hz1 hk1 hS => ?_)
      have hru9 := hw.2
      have hw := hw.1
      obtain ⟨x_2928, e_x_2928_0, hB⟩ := hB
      obtain ⟨hP, hD, hK⟩ := Bw.go (ws' := [(arI rM_r kM_r 287 fM_r), (arI rM_told kM_told 90 fM_told), (arI rM_trial kM_trial 90 fM_trial), (arI rM_often kM_often 4 fM_often), (oc7 oM x_2922 rM_tape iM_taped iM_size iM_at iM_end iM_token iM_whole iM_nameSize iM_fault iM_place x_2928 rM_letters iM_failed iM_hasCourt rM_r rM_fresh rM_told rM_read rM_st rM_undone rM_kept iM_undos iM_images rM_fresher iM_fresherSize iM_scale iM_night rM_heardRow rM_cutRow iM_breaths iM_cutMany iM_allBreaths rM_trial rM_words iM_fewestBreaths iM_orderMany iM_orderSum iM_leastOrder rM_often iM_setMany iM_someOf iM_allOf iM_allWeight iM_enoughWeight iM_worthSum iM_firstRest iM_leastDrawn)]) (tys' := [(kM_r, .int), (kM_told, .int), (kM_trial, .int), (kM_often, .int)]) hB rfl ht hvm hP hD hK [4] [0, 1, 2, 3] rfl (by decide) (by decide) [0, 1, 2, 3] hk1 hFc rfl rfl rfl
      clear hz1 hk1 hvm ht hB
      rw [← hru9] at e_x_2928_0
      obtain ⟨x_2929, rfl⟩ : ∃ z, z = r := ⟨_, rfl⟩
      have hG := hG.trans (un2_eq e_x_2928_0)
      exact W.iret hx hb hr (fun t ht hW => ⟨⟨_, (cI x_2929), rfl, ⟨⟨trivial, trivial⟩, (cI_of x_2929)⟩, ⟨x_2922, x_2928, iM_setMany, iM_someOf, iM_allOf, fM_trial, fM_often, (cI_tup hG), Bw.to (hP.sub [4, 0, 1, 2, 3] rfl) (hD.sub [4, 0, 1, 2, 3] (by decide) rfl) (hK.sub [0, 1, 2, 3] rfl) ht hW⟩⟩, hS.F ht⟩) hS.2.2 dX7_fitAt_20
    · skip
      have hG := hG.trans (if_neg c_2927)
      have gc_2927 := ti_ne c_2927 rfl kc_0
      refine lv_iload_n hx hb dX7_fitAt_11 rfl (lv_at hl 1 rfl) ?_
      refine lv_if_ge (tgt := 21) hx hb dX7_fitAt_12 (by decide) (fun c_2930 => ?_) (fun c_2930 => ?_)
      · skip
        have hG := hG.trans (if_pos c_2930)
        have gc_2930 := ti_le c_2930 kc_0 rfl
        refine lv_aload_n hx hb dX7_fitAt_21 rfl (lv_at hl 0 rfl) ?_
        refine lv_iload_n hx hb dX7_fitAt_22 rfl (lv_at hl 1 rfl) ?_
        have hFc := va_free (wc := [(oc7 oM x_2922 rM_tape iM_taped iM_size iM_at iM_end iM_token iM_whole iM_nameSize iM_fault iM_place x_2923 rM_letters iM_failed iM_hasCourt rM_r rM_fresh rM_told rM_read rM_st rM_undone rM_kept iM_undos iM_images rM_fresher iM_fresherSize iM_scale iM_night rM_heardRow rM_cutRow iM_breaths iM_cutMany iM_allBreaths rM_trial rM_words iM_fewestBreaths iM_orderMany iM_orderSum iM_leastOrder rM_often iM_setMany iM_someOf iM_allOf iM_allWeight iM_enoughWeight iM_worthSum iM_firstRest iM_leastDrawn), (arI rM_r kM_r 287 fM_r), (arI rM_told kM_told 90 fM_told), (arI rM_trial kM_trial 90 fM_trial), (arI rM_often kM_often 4 fM_often)]) hD hS hA [4, 0, 1, 2, 3] rfl
        refine va_calli (va_runV (As := [.int p0]) (rest := []) ⟨hx, hb, hml, hown, hts⟩ (tX7_seekSets l dC dI _ oM x_2922 rM_tape iM_taped iM_size iM_at iM_end iM_token iM_whole iM_nameSize iM_fault iM_place x_2923 rM_letters iM_failed iM_hasCourt rM_r fM_r kM_r rM_fresh rM_told fM_told kM_told rM_read rM_st rM_undone rM_kept iM_undos iM_images rM_fresher iM_fresherSize iM_scale iM_night rM_heardRow rM_cutRow iM_breaths iM_cutMany iM_allBreaths rM_trial fM_trial kM_trial rM_words iM_fewestBreaths iM_orderMany iM_orderSum iM_leastOrder rM_often fM_often kM_often iM_setMany iM_someOf iM_allOf iM_allWeight iM_enoughWeight iM_worthSum iM_firstRest iM_leastDrawn p0 (by first | omega | decide) (by first | omega | decide) (by first | omega | decide) (by first | omega | decide) (by first | omega | decide) (by first | omega | decide) (by first | omega | decide) (by first | omega | decide) (by first | omega | decide) (by first | omega | decide) (by assumption) (by assumption) (by assumption) (by first | omega | decide | assumption | (have q0 := kc_0; have q1 := kc_1; omega) | (intro h; exact absurd h (by decide)))) (cwV 1 hts (wd_V wd_1182 wd_1183 wd_1184 wd_5 (wd_c wd_1185)) rfl rfl rfl (by decide +kernel) ⟨Nat.le_of_ble_eq_true rfl, Nat.le_of_ble_eq_true rfl⟩) ⟨Pw.fb, va_recv hK hP (ci := 7) (q0 := 4) rfl rfl, fun U hU hW => Pw.to (hP.sub [4, 0, 1, 2, 3] rfl) (hD.sub [4, 0, 1, 2, 3] (by decide) rfl) (hK.sub [0, 1, 2, 3] rfl) hE hS hFc hU hW⟩ rfl rfl hl.1 rfl (lv_room (Nat.le_of_ble_eq_true rfl)) dX7_fitAt_23 ⟨Nat.le_of_ble_eq_true rfl, Nat.le_of_ble_eq_true rfl⟩) hS (fun q _ h => hFc q h) hFc (fun r u t H locs ht hvm hw hB hz1 hk1 hS => ?_)
        have hru9 := hw.2
        have hw := hw.1
        obtain ⟨x_2931, x_2932, x_2933, f_2934, f_2935, e_x_2931_0, hB⟩ := hB
        obtain ⟨hP, hD, hK⟩ := Bw.go (ws' := [(oc7 oM x_2922 rM_tape iM_taped iM_size iM_at iM_end iM_token iM_whole iM_nameSize iM_fault iM_place x_2923 rM_letters iM_failed iM_hasCourt rM_r rM_fresh rM_told rM_read rM_st rM_undone rM_kept iM_undos iM_images rM_fresher iM_fresherSize iM_scale iM_night rM_heardRow rM_cutRow iM_breaths iM_cutMany iM_allBreaths rM_trial rM_words iM_fewestBreaths iM_orderMany iM_orderSum iM_leastOrder rM_often x_2931 x_2932 x_2933 iM_allWeight iM_enoughWeight iM_worthSum iM_firstRest iM_leastDrawn), (arI rM_r kM_r 287 fM_r), (arI rM_told kM_told 90 fM_told), (arI rM_trial kM_trial 90 f_2934), (arI rM_often kM_often 4 f_2935)]) (tys' := [(kM_r, .int), (kM_told, .int), (kM_trial, .int), (kM_often, .int)]) hB rfl ht hvm hP hD hK [4, 0, 1, 2, 3] [] rfl (by decide) (by decide) [] hk1 hFc rfl rfl rfl
        clear hz1 hk1 hvm ht hB
        rw [← hru9] at e_x_2931_0
        obtain ⟨x_2936, rfl⟩ : ∃ z, z = r := ⟨_, rfl⟩
        have hG := hG.trans (un6_eq e_x_2931_0)
        refine lv_istore_n (lv' := [(2, .int x_2936), (0, .ref oM), (1, .int p0)]) hx hb dX7_fitAt_26 rfl hl (by decide) rfl (fun ls hl => ?_)
        refine lv_iload_n hx hb dX7_fitAt_27 rfl (lv_at hl 0 rfl) ?_
        refine lv_if_ge (tgt := 39) hx hb dX7_fitAt_28 (by decide) (fun c_2937 => ?_) (fun c_2937 => ?_)
        · skip
          have hG := hG.trans (if_pos c_2937)
          have gc_2937 := ti_le c_2937 kc_0 rfl
          refine lv_iload_n hx hb dX7_fitAt_39 rfl (lv_at hl 0 rfl) ?_
          exact W.iret hx hb hr (fun t ht hW => ⟨⟨_, (cI x_2936), rfl, ⟨⟨trivial, trivial⟩, (cI_of x_2936)⟩, ⟨x_2922, x_2923, x_2931, x_2932, x_2933, f_2934, f_2935, (cI_tup hG), Bw.to (hP.sub [0, 1, 2, 3, 4] rfl) (hD.sub [0, 1, 2, 3, 4] (by decide) rfl) (hK.sub [0, 1, 2, 3] rfl) ht hW⟩⟩, hS.F ht⟩) hS.2.2 dX7_fitAt_40
        · skip
          have hG := hG.trans (if_neg c_2937)
          have gc_2937 := ti_nle c_2937 kc_0 rfl
          refine lv_aload_n hx hb dX7_fitAt_31 rfl (lv_at hl 1 rfl) ?_
          refine lv_iconst (v := 1) hx hb dX7_fitAt_32 (by decide) ?_
          have hFc := va_free (wc := [(oc7 oM x_2922 rM_tape iM_taped iM_size iM_at iM_end iM_token iM_whole iM_nameSize iM_fault iM_place x_2923 rM_letters iM_failed iM_hasCourt rM_r rM_fresh rM_told rM_read rM_st rM_undone rM_kept iM_undos iM_images rM_fresher iM_fresherSize iM_scale iM_night rM_heardRow rM_cutRow iM_breaths iM_cutMany iM_allBreaths rM_trial rM_words iM_fewestBreaths iM_orderMany iM_orderSum iM_leastOrder rM_often x_2931 x_2932 x_2933 iM_allWeight iM_enoughWeight iM_worthSum iM_firstRest iM_leastDrawn)]) hD hS hA [0] rfl
          refine va_calli (va_runV (As := [.int 1]) (rest := []) ⟨hx, hb, hml, hown, hts⟩ (tX7_no l dC dI _ oM x_2922 rM_tape iM_taped iM_size iM_at iM_end iM_token iM_whole iM_nameSize iM_fault iM_place x_2923 rM_letters iM_failed iM_hasCourt rM_r rM_fresh rM_told rM_read rM_st rM_undone rM_kept iM_undos iM_images rM_fresher iM_fresherSize iM_scale iM_night rM_heardRow rM_cutRow iM_breaths iM_cutMany iM_allBreaths rM_trial rM_words iM_fewestBreaths iM_orderMany iM_orderSum iM_leastOrder rM_often x_2931 x_2932 x_2933 iM_allWeight iM_enoughWeight iM_worthSum iM_firstRest iM_leastDrawn 1 (by first | omega | decide) (by first | omega | decide) (by first | omega | decide) (by first | omega | decide) (by first | omega | decide) (by first | omega | decide) (by first | omega | decide) (by first | omega | decide) (by first | omega | decide) (by first | omega | decide)) (cwV 1 hts (wd_V wd_396 wd_397 wd_398 wd_5 (wd_c wd_399)) rfl rfl rfl (by decide +kernel) ⟨Nat.le_of_ble_eq_true rfl, Nat.le_of_ble_eq_true rfl⟩) ⟨Pw.fb, va_recv hK hP (ci := 7) (q0 := 0) rfl rfl, fun U hU hW => Pw.to (hP.sub [0] rfl) (hD.sub [0] (by decide) rfl) (hK.sub [] rfl) hE hS hFc hU hW⟩ rfl rfl hl.1 rfl (lv_room (Nat.le_of_ble_eq_true rfl)) dX7_fitAt_33 ⟨Nat.le_of_ble_eq_true rfl, Nat.le_of_ble_eq_true rfl⟩) hS (fun q _ h => hFc q h) hFc (fun r u t H locs ht hvm hw hB hz1 hk1 hS => ?_)
          have hru9 := hw.2
          have hw := hw.1
          obtain ⟨x_2938, e_x_2938_0, hB⟩ := hB
          obtain ⟨hP, hD, hK⟩ := Bw.go (ws' := [(arI rM_r kM_r 287 fM_r), (arI rM_told kM_told 90 fM_told), (arI rM_trial kM_trial 90 f_2934), (arI rM_often kM_often 4 f_2935), (oc7 oM x_2922 rM_tape iM_taped iM_size iM_at iM_end iM_token iM_whole iM_nameSize iM_fault iM_place x_2938 rM_letters iM_failed iM_hasCourt rM_r rM_fresh rM_told rM_read rM_st rM_undone rM_kept iM_undos iM_images rM_fresher iM_fresherSize iM_scale iM_night rM_heardRow rM_cutRow iM_breaths iM_cutMany iM_allBreaths rM_trial rM_words iM_fewestBreaths iM_orderMany iM_orderSum iM_leastOrder rM_often x_2931 x_2932 x_2933 iM_allWeight iM_enoughWeight iM_worthSum iM_firstRest iM_leastDrawn)]) (tys' := [(kM_r, .int), (kM_told, .int), (kM_trial, .int), (kM_often, .int)]) hB rfl ht hvm hP hD hK [0] [1, 2, 3, 4] rfl (by decide) (by decide) [0, 1, 2, 3] hk1 hFc rfl rfl rfl
          clear hz1 hk1 hvm ht hB
          rw [← hru9] at e_x_2938_0
          obtain ⟨x_2939, rfl⟩ : ∃ z, z = r := ⟨_, rfl⟩
          have hG := hG.trans (un2_eq e_x_2938_0)
          refine lv_goto (tgt := 40) hx hb dX7_fitAt_36 (by decide) ?_
          exact W.iret hx hb hr (fun t ht hW => ⟨⟨_, (cI x_2939), rfl, ⟨⟨trivial, trivial⟩, (cI_of x_2939)⟩, ⟨x_2922, x_2938, x_2931, x_2932, x_2933, f_2934, f_2935, (cI_tup hG), Bw.to (hP.sub [4, 0, 1, 2, 3] rfl) (hD.sub [4, 0, 1, 2, 3] (by decide) rfl) (hK.sub [0, 1, 2, 3] rfl) ht hW⟩⟩, hS.F ht⟩) hS.2.2 dX7_fitAt_40
      · skip
        have hG := hG.trans (if_neg c_2930)
        have gc_2930 := ti_nle c_2930 kc_0 rfl
        refine lv_aload_n hx hb dX7_fitAt_15 rfl (lv_at hl 0 rfl) ?_
        refine lv_iconst (v := 1) hx hb dX7_fitAt_16 (by decide) ?_
        have hFc := va_free (wc := [(oc7 oM x_2922 rM_tape iM_taped iM_size iM_at iM_end iM_token iM_whole iM_nameSize iM_fault iM_place x_2923 rM_letters iM_failed iM_hasCourt rM_r rM_fresh rM_told rM_read rM_st rM_undone rM_kept iM_undos iM_images rM_fresher iM_fresherSize iM_scale iM_night rM_heardRow rM_cutRow iM_breaths iM_cutMany iM_allBreaths rM_trial rM_words iM_fewestBreaths iM_orderMany iM_orderSum iM_leastOrder rM_often iM_setMany iM_someOf iM_allOf iM_allWeight iM_enoughWeight iM_worthSum iM_firstRest iM_leastDrawn)]) hD hS hA [4] rfl
        refine va_calli (va_runV (As := [.int 1]) (rest := []) ⟨hx, hb, hml, hown, hts⟩ (tX7_no l dC dI _ oM x_2922 rM_tape iM_taped iM_size iM_at iM_end iM_token iM_whole iM_nameSize iM_fault iM_place x_2923 rM_letters iM_failed iM_hasCourt rM_r rM_fresh rM_told rM_read rM_st rM_undone rM_kept iM_undos iM_images rM_fresher iM_fresherSize iM_scale iM_night rM_heardRow rM_cutRow iM_breaths iM_cutMany iM_allBreaths rM_trial rM_words iM_fewestBreaths iM_orderMany iM_orderSum iM_leastOrder rM_often iM_setMany iM_someOf iM_allOf iM_allWeight iM_enoughWeight iM_worthSum iM_firstRest iM_leastDrawn 1 (by first | omega | decide) (by first | omega | decide) (by first | omega | decide) (by first | omega | decide) (by first | omega | decide) (by first | omega | decide) (by first | omega | decide) (by first | omega | decide) (by first | omega | decide) (by first | omega | decide)) (cwV 1 hts (wd_V wd_396 wd_397 wd_398 wd_5 (wd_c wd_399)) rfl rfl rfl (by decide +kernel) ⟨Nat.le_of_ble_eq_true rfl, Nat.le_of_ble_eq_true rfl⟩) ⟨Pw.fb, va_recv hK hP (ci := 7) (q0 := 4) rfl rfl, fun U hU hW => Pw.to (hP.sub [4] rfl) (hD.sub [4] (by decide) rfl) (hK.sub [] rfl) hE hS hFc hU hW⟩ rfl rfl hl.1 rfl (lv_room (Nat.le_of_ble_eq_true rfl)) dX7_fitAt_17 ⟨Nat.le_of_ble_eq_true rfl, Nat.le_of_ble_eq_true rfl⟩) hS (fun q _ h => hFc q h) hFc (fun r u t H locs ht hvm hw hB hz1 hk1 hS => ?_)
        have hru9 := hw.2
        have hw := hw.1
        obtain ⟨x_2940, e_x_2940_0, hB⟩ := hB
        obtain ⟨hP, hD, hK⟩ := Bw.go (ws' := [(arI rM_r kM_r 287 fM_r), (arI rM_told kM_told 90 fM_told), (arI rM_trial kM_trial 90 fM_trial), (arI rM_often kM_often 4 fM_often), (oc7 oM x_2922 rM_tape iM_taped iM_size iM_at iM_end iM_token iM_whole iM_nameSize iM_fault iM_place x_2940 rM_letters iM_failed iM_hasCourt rM_r rM_fresh rM_told rM_read rM_st rM_undone rM_kept iM_undos iM_images rM_fresher iM_fresherSize iM_scale iM_night rM_heardRow rM_cutRow iM_breaths iM_cutMany iM_allBreaths rM_trial rM_words iM_fewestBreaths iM_orderMany iM_orderSum iM_leastOrder rM_often iM_setMany iM_someOf iM_allOf iM_allWeight iM_enoughWeight iM_worthSum iM_firstRest iM_leastDrawn)]) (tys' := [(kM_r, .int), (kM_told, .int), (kM_trial, .int), (kM_often, .int)]) hB rfl ht hvm hP hD hK [4] [0, 1, 2, 3] rfl (by decide) (by decide) [0, 1, 2, 3] hk1 hFc rfl rfl rfl
        clear hz1 hk1 hvm ht hB
        rw [← hru9] at e_x_2940_0
        obtain ⟨x_2941, rfl⟩ : ∃ z, z = r := ⟨_, rfl⟩
        have hG := hG.trans (un2_eq e_x_2940_0)
        exact W.iret hx hb hr (fun t ht hW => ⟨⟨_, (cI x_2941), rfl, ⟨⟨trivial, trivial⟩, (cI_of x_2941)⟩, ⟨x_2922, x_2940, iM_setMany, iM_someOf, iM_allOf, fM_trial, fM_often, (cI_tup hG), Bw.to (hP.sub [4, 0, 1, 2, 3] rfl) (hD.sub [4, 0, 1, 2, 3] (by decide) rfl) (hK.sub [0, 1, 2, 3] rfl) ht hW⟩⟩, hS.F ht⟩) hS.2.2 dX7_fitAt_20
set_option maxHeartbeats 4000000 in
set_option maxRecDepth 100000 in
theorem tX7_speaks (l : Launch) (dC : Nat → ClassId) (dI : Nat → Nat → Nat) (sz : Nat) (oM : Nat) (iM_thrown : Int32) (rM_tape : Nat) (iM_taped : Int32) (iM_size : Int32) (iM_at : Int32) (iM_end : Int32) (iM_token : Int32) (iM_whole : Int32) (iM_nameSize : Int32) (iM_fault : Int32) (iM_place : Int32) (iM_trouble : Int32) (rM_letters : Nat) (iM_failed : Int32) (iM_hasCourt : Int32) (rM_r : Nat) (fM_r : Nat → Int32) (kM_r : ClassId) (rM_fresh : Nat) (rM_told : Nat) (rM_read : Nat) (rM_st : Nat) (rM_undone : Nat) (rM_kept : Nat) (iM_undos : Int32) (iM_images : Int32) (rM_fresher : Nat) (iM_fresherSize : Int32) (iM_scale : Int32) (iM_night : Int32) (rM_heardRow : Nat) (rM_cutRow : Nat) (iM_breaths : Int32) (iM_cutMany : Int32) (iM_allBreaths : Int32) (rM_trial : Nat) (rM_words : Nat) (iM_fewestBreaths : Int32) (iM_orderMany : Int32) (iM_orderSum : Int32) (iM_leastOrder : Int32) (rM_often : Nat) (iM_setMany : Int32) (iM_someOf : Int32) (iM_allOf : Int32) (iM_allWeight : Int64) (iM_enoughWeight : Int64) (iM_worthSum : Int64) (iM_firstRest : Int32) (iM_leastDrawn : Int32) (p0 : Int32) (p1 : Int32) (p2 : Int32) (p3 : Int32) (b_iM_taped : 0 ≤ iM_taped.toInt ∧ iM_taped.toInt ≤ 900) (b_iM_size : 0 ≤ iM_size.toInt ∧ iM_size.toInt ≤ 900) (b_iM_end : 0 ≤ iM_end.toInt ∧ iM_end.toInt ≤ 900) (b_iM_failed : 0 ≤ iM_failed.toInt ∧ iM_failed.toInt ≤ 1) (b_iM_hasCourt : 0 ≤ iM_hasCourt.toInt ∧ iM_hasCourt.toInt ≤ 1) (b_iM_undos : 0 ≤ iM_undos.toInt ∧ iM_undos.toInt ≤ 16) (b_iM_images : 0 ≤ iM_images.toInt ∧ iM_images.toInt ≤ 3) (b_iM_scale : 1 ≤ iM_scale.toInt ∧ iM_scale.toInt ≤ 1296) (b_iM_breaths : 0 ≤ iM_breaths.toInt ∧ iM_breaths.toInt ≤ 399) (b_iM_cutMany : 0 ≤ iM_cutMany.toInt ∧ iM_cutMany.toInt ≤ 399) (r_R : ROk fM_r) (r_C : iM_hasCourt.toInt ≤ 0 ∨ (1 ≤ (fM_r 1).toInt ∧ 0 ≤ (fM_r 6).toInt ∧ (fM_r 6).toInt < (fM_r 1).toInt))  : Met l yX7_speaks (Cond.code yX7_speaks cX7_speaks 6 (some .int) :: wG) ({ frames := 1, cells := 0, slots := 0, locals := 22 }) (va_Pc [.ref oM, .int p0, .int p1, .int p2, .int p3] (Pw dC dI sz [(oc7 oM iM_thrown rM_tape iM_taped iM_size iM_at iM_end iM_token iM_whole iM_nameSize iM_fault iM_place iM_trouble rM_letters iM_failed iM_hasCourt rM_r rM_fresh rM_told rM_read rM_st rM_undone rM_kept iM_undos iM_images rM_fresher iM_fresherSize iM_scale iM_night rM_heardRow rM_cutRow iM_breaths iM_cutMany iM_allBreaths rM_trial rM_words iM_fewestBreaths iM_orderMany iM_orderSum iM_leastOrder rM_often iM_setMany iM_someOf iM_allOf iM_allWeight iM_enoughWeight iM_worthSum iM_firstRest iM_leastDrawn), (arI rM_r kM_r 287 fM_r)] [(kM_r, .int)])) (va_Qi (fun (r : Int32) (u : Nat) => (True ∧ True) ∧ r = Int32.ofNat u) (fun (u : Nat) (t : State) => ∃ (niM_thrown : Int32) (niM_trouble : Int32), (PX7_speaks iM_hasCourt p0 p1 p2 p3 = (Int32.ofNat u, niM_thrown, niM_trouble)) ∧ Bw dC dI (va_A [(oc7 oM iM_thrown rM_tape iM_taped iM_size iM_at iM_end iM_token iM_whole iM_nameSize iM_fault iM_place iM_trouble rM_letters iM_failed iM_hasCourt rM_r rM_fresh rM_told rM_read rM_st rM_undone rM_kept iM_undos iM_images rM_fresher iM_fresherSize iM_scale iM_night rM_heardRow rM_cutRow iM_breaths iM_cutMany iM_allBreaths rM_trial rM_words iM_fewestBreaths iM_orderMany iM_orderSum iM_leastOrder rM_often iM_setMany iM_someOf iM_allOf iM_allWeight iM_enoughWeight iM_worthSum iM_firstRest iM_leastDrawn), (arI rM_r kM_r 287 fM_r)] sz) [(oc7 oM niM_thrown rM_tape iM_taped iM_size iM_at iM_end iM_token iM_whole iM_nameSize iM_fault iM_place niM_trouble rM_letters iM_failed iM_hasCourt rM_r rM_fresh rM_told rM_read rM_st rM_undone rM_kept iM_undos iM_images rM_fresher iM_fresherSize iM_scale iM_night rM_heardRow rM_cutRow iM_breaths iM_cutMany iM_allBreaths rM_trial rM_words iM_fewestBreaths iM_orderMany iM_orderSum iM_leastOrder rM_often iM_setMany iM_someOf iM_allOf iM_allWeight iM_enoughWeight iM_worthSum iM_firstRest iM_leastDrawn), (arI rM_r kM_r 287 fM_r)] [(kM_r, .int)] t) (va_A [(oc7 oM iM_thrown rM_tape iM_taped iM_size iM_at iM_end iM_token iM_whole iM_nameSize iM_fault iM_place iM_trouble rM_letters iM_failed iM_hasCourt rM_r rM_fresh rM_told rM_read rM_st rM_undone rM_kept iM_undos iM_images rM_fresher iM_fresherSize iM_scale iM_night rM_heardRow rM_cutRow iM_breaths iM_cutMany iM_allBreaths rM_trial rM_words iM_fewestBreaths iM_orderMany iM_orderSum iM_leastOrder rM_often iM_setMany iM_someOf iM_allOf iM_allWeight iM_enoughWeight iM_worthSum iM_firstRest iM_leastDrawn), (arI rM_r kM_r 287 fM_r)] sz)) 0 0 (va_A [(oc7 oM iM_thrown rM_tape iM_taped iM_size iM_at iM_end iM_token iM_whole iM_nameSize iM_fault iM_place iM_trouble rM_letters iM_failed iM_hasCourt rM_r rM_fresh rM_told rM_read rM_st rM_undone rM_kept iM_undos iM_images rM_fresher iM_fresherSize iM_scale iM_night rM_heardRow rM_cutRow iM_breaths iM_cutMany iM_allBreaths rM_trial rM_words iM_fewestBreaths iM_orderMany iM_orderSum iM_leastOrder rM_often iM_setMany iM_someOf iM_allOf iM_allWeight iM_enoughWeight iM_worthSum iM_firstRest iM_leastDrawn), (arI rM_r kM_r 287 fM_r)] sz) := by
  refine Met.ofW (cc := cX7_speaks) (maxL := 6) (ret := (some .int)) (by decide) rfl ?_
  intro p e s m args below meth c s₁ B hml hv
  obtain ⟨rfl, hsz, hP, hK, hD0, hE⟩ := hv
  have hx := B.exec
  have hb := B.bytes
  have hr := B.returns
  have hts : ∀ w ∈ wG, w.before ([.ref oM, .int p0, .int p1, .int p2, .int p3] : List Value).toArray s = true := fun w h => atoms_spec (ws := Cond.code yX7_speaks cX7_speaks 6 (some .int) :: wG) B.pre w (List.mem_cons_of_mem _ h)
  have hown : s.vm.findClass RX7 = some m.cls := findClass_of_methodNamed B.named
  have hlocks := B.notSynchronized
  subst hsz
  have hD := hD0.self (sz := s.heap.size)
  generalize hAe : va_A [(oc7 oM iM_thrown rM_tape iM_taped iM_size iM_at iM_end iM_token iM_whole iM_nameSize iM_fault iM_place iM_trouble rM_letters iM_failed iM_hasCourt rM_r rM_fresh rM_told rM_read rM_st rM_undone rM_kept iM_undos iM_images rM_fresher iM_fresherSize iM_scale iM_night rM_heardRow rM_cutRow iM_breaths iM_cutMany iM_allBreaths rM_trial rM_words iM_fewestBreaths iM_orderMany iM_orderSum iM_leastOrder rM_often iM_setMany iM_someOf iM_allOf iM_allWeight iM_enoughWeight iM_worthSum iM_firstRest iM_leastDrawn), (arI rM_r kM_r 287 fM_r)] s.heap.size = A at hD hE ⊢
  have hA : ∀ q : Nat, s.heap.size ≤ q → A q := fun q h => by rw [← hAe]; exact Or.inr h
  have hS : va_S A s.heap s.heap [] := va_S.rf
  have hl := lv_entry ([.ref oM, .int p0, .int p1, .int p2, .int p3]) (n := 6) (Nat.le_of_ble_eq_true rfl)
  rw [lg_entry_eq]
  generalize (lg_sl ([.ref oM, .int p0, .int p1, .int p2, .int p3]) ++ List.replicate (6 - (lg_sl ([.ref oM, .int p0, .int p1, .int p2, .int p3])).length) Slot.unset).toArray = ls at hl ⊢
  have hl : lv_has ls 6 [(0, .ref oM), (1, .int p0), (2, .int p1), (3, .int p2), (4, .int p3)] := hl
  have hG := PX7_speaks_eq iM_hasCourt p0 p1 p2 p3
  have s_slips := r_R.slips
  have s_nodes := r_R.nodes
  have s_uns := r_R.uns
  refine lv_aload_n hx hb dX7_speaks_0 rfl (lv_at hl 0 rfl) ?_
  have hFc := va_free (wc := [(oc7 oM iM_thrown rM_tape iM_taped iM_size iM_at iM_end iM_token iM_whole iM_nameSize iM_fault iM_place iM_trouble rM_letters iM_failed iM_hasCourt rM_r rM_fresh rM_told rM_read rM_st rM_undone rM_kept iM_undos iM_images rM_fresher iM_fresherSize iM_scale iM_night rM_heardRow rM_cutRow iM_breaths iM_cutMany iM_allBreaths rM_trial rM_words iM_fewestBreaths iM_orderMany iM_orderSum iM_leastOrder rM_often iM_setMany iM_someOf iM_allOf iM_allWeight iM_enoughWeight iM_worthSum iM_firstRest iM_leastDrawn)]) hD hS hA [0] rfl
  refine va_callv (va_runV (As := []) (rest := []) ⟨hx, hb, hml, hown, hts⟩ (tX7_good l dC dI _ oM iM_thrown rM_tape iM_taped iM_size iM_at iM_end iM_token iM_whole iM_nameSize iM_fault iM_place iM_trouble rM_letters iM_failed iM_hasCourt rM_r rM_fresh rM_told rM_read rM_st rM_undone rM_kept iM_undos iM_images rM_fresher iM_fresherSize iM_scale iM_night rM_heardRow rM_cutRow iM_breaths iM_cutMany iM_allBreaths rM_trial rM_words iM_fewestBreaths iM_orderMany iM_orderSum iM_leastOrder rM_often iM_setMany iM_someOf iM_allOf iM_allWeight iM_enoughWeight iM_worthSum iM_firstRest iM_leastDrawn (by first | omega | decide) (by first | omega | decide) (by first | omega | decide) (by first | omega | decide) (by first | omega | decide) (by first | omega | decide) (by first | omega | decide) (by first | omega | decide) (by first | omega | decide) (by first | omega | decide)) (cwV 0 hts (wd_V wd_388 wd_389 wd_390 wd_5 (wd_c wd_391)) rfl rfl rfl (by decide +kernel) ⟨Nat.le_of_ble_eq_true rfl, Nat.le_of_ble_eq_true rfl⟩) ⟨Pw.fb, va_recv hK hP (ci := 7) (q0 := 0) rfl rfl, fun U hU hW => Pw.to (hP.sub [0] rfl) (hD.sub [0] (by decide) rfl) (hK.sub [] rfl) hE hS hFc hU hW⟩ rfl rfl hl.1 rfl (lv_room (Nat.le_of_ble_eq_true rfl)) dX7_speaks_1 ⟨Nat.le_of_ble_eq_true rfl, Nat.le_of_ble_eq_true rfl⟩) hS (fun q _ h => hFc q h) hFc (fun u t H locs ht hvm hw hB hz1 hk1 hS => ?_)
  obtain ⟨x_2952, x_2953, b_x_2952, b_x_2953, e_x_2952_0, hB⟩ := hB
  obtain ⟨hP, hD, hK⟩ := Bw.go (ws' := [(arI rM_r kM_r 287 fM_r), (oc7 oM x_2952 rM_tape iM_taped iM_size iM_at iM_end iM_token iM_whole iM_nameSize iM_fault iM_place x_2953 rM_letters iM_failed iM_hasCourt rM_r rM_fresh rM_told rM_read rM_st rM_undone rM_kept iM_undos iM_images rM_fresher iM_fresherSize iM_scale iM_night rM_heardRow rM_cutRow iM_breaths iM_cutMany iM_allBreaths rM_trial rM_words iM_fewestBreaths iM_orderMany iM_orderSum iM_leastOrder rM_often iM_setMany iM_someOf iM_allOf iM_allWeight iM_enoughWeight iM_worthSum iM_firstRest iM_leastDrawn)]) (tys' := [(kM_r, .int)]) hB rfl ht hvm hP hD hK [0] [1] rfl (by decide) (by decide) [0] hk1 hFc rfl rfl rfl
  clear hz1 hk1 hvm ht hB
  have hG := hG.trans (un2_eq e_x_2952_0)
  refine lv_aload_n hx hb dX7_speaks_4 rfl (lv_at hl 0 rfl) ?_
  refine lv_iload_n hx hb dX7_speaks_5 rfl (lv_at hl 1 rfl) ?_
  refine lv_iconst (v := 0) hx hb dX7_speaks_6 (by decide) ?_
  refine lv_bipush (v := 9) hx hb dX7_speaks_7 (by decide) ?_
  have hFc : ∀ q, va_A [] _ q → A q := fun q h => hA q (Nat.le_trans hS.1 (va_nilA h))
  refine va_calli (va_runS (As := [.int p0, .int 0, .int 9]) (rest := [.ref oM]) ⟨hx, hb, hml, hown, hts⟩ (tX7_in l dC dI _ p0 0 9 ) (va_cwS 3 hts (wd_S wd_393 wd_394 wd_5 (wd_c wd_395)) rfl rfl rfl (by decide +kernel) ⟨Nat.le_of_ble_eq_true rfl, Nat.le_of_ble_eq_true rfl⟩) ⟨Pw.fb, fun U hU hW => Pn.to hK hE hS hA hU hW⟩ rfl rfl hl.1 rfl (lv_room (Nat.le_of_ble_eq_true rfl)) dX7_speaks_9 ⟨Nat.le_of_ble_eq_true rfl, Nat.le_of_ble_eq_true rfl⟩) hS (fun q _ h => hFc q h) hFc (fun r u t H locs ht hvm hw hB hz1 hk1 hS => ?_)
  obtain ⟨hP, hD, hK⟩ := Bw.same ht hvm hP hD hK hk1 hFc
  clear hz1 hk1 hvm ht hB
  have hq9 := hw.2
  have hw := hw.1
  obtain ⟨x_2954, rfl⟩ : ∃ z, z = r := ⟨_, rfl⟩
  have hq_x_2954 := hq9
  have hG := hG.trans (lt_eq hq_x_2954.symm)
  have bx_2954 := hw.1
  have dx_2954 := bz_ti bx_2954
  have px_2954 := hw.2
  have hFc := va_free (wc := [(oc7 oM x_2952 rM_tape iM_taped iM_size iM_at iM_end iM_token iM_whole iM_nameSize iM_fault iM_place x_2953 rM_letters iM_failed iM_hasCourt rM_r rM_fresh rM_told rM_read rM_st rM_undone rM_kept iM_undos iM_images rM_fresher iM_fresherSize iM_scale iM_night rM_heardRow rM_cutRow iM_breaths iM_cutMany iM_allBreaths rM_trial rM_words iM_fewestBreaths iM_orderMany iM_orderSum iM_leastOrder rM_often iM_setMany iM_someOf iM_allOf iM_allWeight iM_enoughWeight iM_worthSum iM_firstRest iM_leastDrawn), (arI rM_r kM_r 287 fM_r)]) hD hS hA [1, 0] rfl
  refine va_calli (va_runV (As := [.int x_2954]) (rest := []) ⟨hx, hb, hml, hown, hts⟩ (tX7_why l dC dI _ oM x_2952 rM_tape iM_taped iM_size iM_at iM_end iM_token iM_whole iM_nameSize iM_fault iM_place x_2953 rM_letters iM_failed iM_hasCourt rM_r fM_r kM_r rM_fresh rM_told rM_read rM_st rM_undone rM_kept iM_undos iM_images rM_fresher iM_fresherSize iM_scale iM_night rM_heardRow rM_cutRow iM_breaths iM_cutMany iM_allBreaths rM_trial rM_words iM_fewestBreaths iM_orderMany iM_orderSum iM_leastOrder rM_often iM_setMany iM_someOf iM_allOf iM_allWeight iM_enoughWeight iM_worthSum iM_firstRest iM_leastDrawn x_2954 (by first | omega | decide) (by first | omega | decide) (by first | omega | decide) (by first | omega | decide) (by first | omega | decide) (by first | omega | decide) (by first | omega | decide) (by first | omega | decide) (by first | omega | decide) (by first | omega | decide) (by assumption) (by assumption) (by first | omega | decide | assumption | (have q0 := kc_0; have q1 := kc_1; omega) | (intro h; exact absurd h (by decide)))) (cwV 1 hts (wd_V wd_882 wd_883 wd_884 wd_5 (wd_c wd_885)) rfl rfl rfl (by decide +kernel) ⟨Nat.le_of_ble_eq_true rfl, Nat.le_of_ble_eq_true rfl⟩) ⟨Pw.fb, va_recv hK hP (ci := 7) (q0 := 1) rfl rfl, fun U hU hW => Pw.to (hP.sub [1, 0] rfl) (hD.sub [1, 0] (by decide) rfl) (hK.sub [0] rfl) hE hS hFc hU hW⟩ rfl rfl hl.1 rfl (lv_room (Nat.le_of_ble_eq_true rfl)) dX7_speaks_12 ⟨Nat.le_of_ble_eq_true rfl, Nat.le_of_ble_eq_true rfl⟩) hS (fun q _ h => hFc q h) hFc (fun r u t H locs ht hvm hw hB hz1 hk1 hS => ?_)
  have hru9 := hw.2
  have hw := hw.1
  obtain ⟨hP, hD, hK⟩ := Bw.go (ws' := [(oc7 oM x_2952 rM_tape iM_taped iM_size iM_at iM_end iM_token iM_whole iM_nameSize iM_fault iM_place x_2953 rM_letters iM_failed iM_hasCourt rM_r rM_fresh rM_told rM_read rM_st rM_undone rM_kept iM_undos iM_images rM_fresher iM_fresherSize iM_scale iM_night rM_heardRow rM_cutRow iM_breaths iM_cutMany iM_allBreaths rM_trial rM_words iM_fewestBreaths iM_orderMany iM_orderSum iM_leastOrder rM_often iM_setMany iM_someOf iM_allOf iM_allWeight iM_enoughWeight iM_worthSum iM_firstRest iM_leastDrawn), (arI rM_r kM_r 287 fM_r)]) (tys' := [(kM_r, .int)]) hB rfl ht hvm hP hD hK [1, 0] [] rfl (by decide) (by decide) [] hk1 hFc rfl rfl rfl
  clear hz1 hk1 hvm ht hB
  rcases hw.2 with ⟨rfl, hc_2955⟩ | ⟨rfl, hc_2955⟩ | ⟨rfl, hc_2955⟩
  · skip
    have hG := hG.trans (lt_eq hru9.symm)
    have hG := hG.trans (if_pos rfl)
    refine lv_istore (lv' := [(5, .int 0), (0, .ref oM), (1, .int p0), (2, .int p1), (3, .int p2), (4, .int p3)]) hx hb dX7_speaks_15 hl (by decide) rfl (fun ls hl => ?_)
    refine lv_iload hx hb dX7_speaks_17 (lv_at hl 0 rfl) ?_
    refine lv_if_ne (tgt := 43) hx hb dX7_speaks_19 (by decide) (fun c => absurd c (by decide)) (fun _ => ?_)
    refine lv_iload hx hb dX7_speaks_22 (lv_at hl 5 rfl) ?_
    refine lv_if_eq (tgt := 36) hx hb dX7_speaks_24 (by decide) (fun c_2958 => ?_) (fun c_2958 => ?_)
    · skip
      have hG := hG.trans (if_pos c_2958)
      have gc_2958 := ti_eq c_2958 rfl kc_0
      refine lv_iload_n hx hb dX7_speaks_36 rfl (lv_at hl 2 rfl) ?_
      refine lv_iload_n hx hb dX7_speaks_37 rfl (lv_at hl 3 rfl) ?_
      refine lv_iload_n hx hb dX7_speaks_38 rfl (lv_at hl 4 rfl) ?_
      have hFc : ∀ q, va_A [] _ q → A q := fun q h => hA q (Nat.le_trans hS.1 (va_nilA h))
      refine va_calli (va_runS (As := [.int p0, .int p1, .int p2]) (rest := []) ⟨hx, hb, hml, hown, hts⟩ (tX7_speaksOf l dC dI _ p0 p1 p2 ) (va_cwS 3 hts (wd_S wd_1297 wd_1298 wd_5 (wd_c wd_1299)) rfl rfl rfl (by decide +kernel) ⟨Nat.le_of_ble_eq_true rfl, Nat.le_of_ble_eq_true rfl⟩) ⟨Pw.fb, fun U hU hW => Pn.to hK hE hS hA hU hW⟩ rfl rfl hl.1 rfl (lv_room (Nat.le_of_ble_eq_true rfl)) dX7_speaks_39 ⟨Nat.le_of_ble_eq_true rfl, Nat.le_of_ble_eq_true rfl⟩) hS (fun q _ h => hFc q h) hFc (fun r u t H locs ht hvm hw hB hz1 hk1 hS => ?_)
      obtain ⟨hP, hD, hK⟩ := Bw.same ht hvm hP hD hK hk1 hFc
      clear hz1 hk1 hvm ht hB
      have hq9 := hw.2
      have hw := hw.1
      obtain ⟨x_2959, rfl⟩ : ∃ z, z = r := ⟨_, rfl⟩
      have hq_x_2959 := hq9
      have hG := hG.trans (lt_eq hq_x_2959.symm)
      exact W.iret hx hb hr (fun t ht hW => ⟨⟨_, (cI x_2959), rfl, ⟨⟨trivial, trivial⟩, (cI_of x_2959)⟩, ⟨x_2952, x_2953, (cI_tup hG), Bw.to (hP.sub [0, 1] rfl) (hD.sub [0, 1] (by decide) rfl) (hK.sub [0] rfl) ht hW⟩⟩, hS.F ht⟩) hS.2.2 dX7_speaks_42
    · skip
      have hG := hG.trans (if_neg c_2958)
      have gc_2958 := ti_ne c_2958 rfl kc_0
      refine lv_iload_n hx hb dX7_speaks_27 rfl (lv_at hl 2 rfl) ?_
      refine lv_iload_n hx hb dX7_speaks_28 rfl (lv_at hl 4 rfl) ?_
      refine lv_iload_n hx hb dX7_speaks_29 rfl (lv_at hl 3 rfl) ?_
      have hFc : ∀ q, va_A [] _ q → A q := fun q h => hA q (Nat.le_trans hS.1 (va_nilA h))
      refine va_calli (va_runS (As := [.int p0, .int p2, .int p1]) (rest := []) ⟨hx, hb, hml, hown, hts⟩ (tX7_speaksOf l dC dI _ p0 p2 p1 ) (va_cwS 3 hts (wd_S wd_1297 wd_1298 wd_5 (wd_c wd_1299)) rfl rfl rfl (by decide +kernel) ⟨Nat.le_of_ble_eq_true rfl, Nat.le_of_ble_eq_true rfl⟩) ⟨Pw.fb, fun U hU hW => Pn.to hK hE hS hA hU hW⟩ rfl rfl hl.1 rfl (lv_room (Nat.le_of_ble_eq_true rfl)) dX7_speaks_30 ⟨Nat.le_of_ble_eq_true rfl, Nat.le_of_ble_eq_true rfl⟩) hS (fun q _ h => hFc q h) hFc (fun r u t H locs ht hvm hw hB hz1 hk1 hS => ?_)
      obtain ⟨hP, hD, hK⟩ := Bw.same ht hvm hP hD hK hk1 hFc
      clear hz1 hk1 hvm ht hB
      have hq9 := hw.2
      have hw := hw.1
      obtain ⟨x_2960, rfl⟩ : ∃ z, z = r := ⟨_, rfl⟩
      have hq_x_2960 := hq9
      have hG := hG.trans (lt_eq hq_x_2960.symm)
      refine lv_goto (tgt := 42) hx hb dX7_speaks_33 (by decide) ?_
      exact W.iret hx hb hr (fun t ht hW => ⟨⟨_, (cI x_2960), rfl, ⟨⟨trivial, trivial⟩, (cI_of x_2960)⟩, ⟨x_2952, x_2953, (cI_tup hG), Bw.to (hP.sub [0, 1] rfl) (hD.sub [0, 1] (by decide) rfl) (hK.sub [0] rfl) ht hW⟩⟩, hS.F ht⟩) hS.2.2 dX7_speaks_42
  · skip
    have hG := hG.trans (lt_eq hru9.symm)
    have hG := hG.trans (if_neg (by decide))
    have hG := hG.trans (if_pos rfl)
    refine lv_istore (lv' := [(5, .int 1), (0, .ref oM), (1, .int p0), (2, .int p1), (3, .int p2), (4, .int p3)]) hx hb dX7_speaks_15 hl (by decide) rfl (fun ls hl => ?_)
    refine lv_iload hx hb dX7_speaks_17 (lv_at hl 0 rfl) ?_
    refine lv_if_ne (tgt := 43) hx hb dX7_speaks_19 (by decide) (fun _ => ?_) (fun c => absurd c (by decide))
    refine lv_aload_n hx hb dX7_speaks_43 rfl (lv_at hl 1 rfl) ?_
    refine lv_iload hx hb dX7_speaks_44 (lv_at hl 0 rfl) ?_
    refine va_put (D := (dC, dI)) (ci := 7) (v := .int 1) (ty := .int) (C := RX7) (T := TX7) (N := 48) hx hb hts inX7 tyX7 tyX7_ok nmX7 hown hK hP hD hS 0 rfl rfl 11 (by decide) (hts _ wd_392) (fun _ h9 => h9) rfl (by decide +kernel) rfl rfl (Nat.le_of_ble_eq_true rfl) dX7_speaks_46 (fun H locs hP hD hS => ?_)
    obtain ⟨hP, hD⟩ := wl2 (ws' := [(oc7 oM x_2952 rM_tape iM_taped iM_size iM_at iM_end iM_token iM_whole iM_nameSize iM_fault iM_place 1 rM_letters iM_failed iM_hasCourt rM_r rM_fresh rM_told rM_read rM_st rM_undone rM_kept iM_undos iM_images rM_fresher iM_fresherSize iM_scale iM_night rM_heardRow rM_cutRow iM_breaths iM_cutMany iM_allBreaths rM_trial rM_words iM_fewestBreaths iM_orderMany iM_orderSum iM_leastOrder rM_often iM_setMany iM_someOf iM_allOf iM_allWeight iM_enoughWeight iM_worthSum iM_firstRest iM_leastDrawn), (arI rM_r kM_r 287 fM_r)]) hP hD rfl
    refine lv_bipush (v := (-100)) hx hb dX7_speaks_49 (by decide) ?_
    exact W.iret hx hb hr (fun t ht hW => ⟨⟨_, (cI (-100)), rfl, ⟨⟨trivial, trivial⟩, (cI_of (-100))⟩, ⟨x_2952, 1, (cI_tup hG), Bw.to (hP.sub [0, 1] rfl) (hD.sub [0, 1] (by decide) rfl) (hK.sub [0] rfl) ht hW⟩⟩, hS.F ht⟩) hS.2.2 dX7_speaks_51
  · skip
    have hG := hG.trans (lt_eq hru9.symm)
    have hG := hG.trans (if_neg (by decide))
    have hG := hG.trans (if_neg (by decide))
    refine lv_istore (lv' := [(5, .int 2), (0, .ref oM), (1, .int p0), (2, .int p1), (3, .int p2), (4, .int p3)]) hx hb dX7_speaks_15 hl (by decide) rfl (fun ls hl => ?_)
    refine lv_iload hx hb dX7_speaks_17 (lv_at hl 0 rfl) ?_
    refine lv_if_ne (tgt := 43) hx hb dX7_speaks_19 (by decide) (fun _ => ?_) (fun c => absurd c (by decide))
    refine lv_aload_n hx hb dX7_speaks_43 rfl (lv_at hl 1 rfl) ?_
    refine lv_iload hx hb dX7_speaks_44 (lv_at hl 0 rfl) ?_
    refine va_put (D := (dC, dI)) (ci := 7) (v := .int 2) (ty := .int) (C := RX7) (T := TX7) (N := 48) hx hb hts inX7 tyX7 tyX7_ok nmX7 hown hK hP hD hS 0 rfl rfl 11 (by decide) (hts _ wd_392) (fun _ h9 => h9) rfl (by decide +kernel) rfl rfl (Nat.le_of_ble_eq_true rfl) dX7_speaks_46 (fun H locs hP hD hS => ?_)
    obtain ⟨hP, hD⟩ := wl2 (ws' := [(oc7 oM x_2952 rM_tape iM_taped iM_size iM_at iM_end iM_token iM_whole iM_nameSize iM_fault iM_place 2 rM_letters iM_failed iM_hasCourt rM_r rM_fresh rM_told rM_read rM_st rM_undone rM_kept iM_undos iM_images rM_fresher iM_fresherSize iM_scale iM_night rM_heardRow rM_cutRow iM_breaths iM_cutMany iM_allBreaths rM_trial rM_words iM_fewestBreaths iM_orderMany iM_orderSum iM_leastOrder rM_often iM_setMany iM_someOf iM_allOf iM_allWeight iM_enoughWeight iM_worthSum iM_firstRest iM_leastDrawn), (arI rM_r kM_r 287 fM_r)]) hP hD rfl
    refine lv_bipush (v := (-100)) hx hb dX7_speaks_49 (by decide) ?_
    exact W.iret hx hb hr (fun t ht hW => ⟨⟨_, (cI (-100)), rfl, ⟨⟨trivial, trivial⟩, (cI_of (-100))⟩, ⟨x_2952, 2, (cI_tup hG), Bw.to (hP.sub [0, 1] rfl) (hD.sub [0, 1] (by decide) rfl) (hK.sub [0] rfl) ht hW⟩⟩, hS.F ht⟩) hS.2.2 dX7_speaks_51
set_option maxHeartbeats 4000000 in
set_option maxRecDepth 100000 in
theorem tX7_seekRests (l : Launch) (dC : Nat → ClassId) (dI : Nat → Nat → Nat) (sz : Nat) (oM : Nat) (iM_thrown : Int32) (rM_tape : Nat) (iM_taped : Int32) (iM_size : Int32) (iM_at : Int32) (iM_end : Int32) (iM_token : Int32) (iM_whole : Int32) (iM_nameSize : Int32) (iM_fault : Int32) (iM_place : Int32) (iM_trouble : Int32) (rM_letters : Nat) (iM_failed : Int32) (iM_hasCourt : Int32) (rM_r : Nat) (rM_fresh : Nat) (rM_told : Nat) (rM_read : Nat) (rM_st : Nat) (rM_undone : Nat) (rM_kept : Nat) (iM_undos : Int32) (iM_images : Int32) (rM_fresher : Nat) (iM_fresherSize : Int32) (iM_scale : Int32) (iM_night : Int32) (rM_heardRow : Nat) (rM_cutRow : Nat) (iM_breaths : Int32) (iM_cutMany : Int32) (iM_allBreaths : Int32) (rM_trial : Nat) (rM_words : Nat) (iM_fewestBreaths : Int32) (iM_orderMany : Int32) (iM_orderSum : Int32) (iM_leastOrder : Int32) (rM_often : Nat) (iM_setMany : Int32) (iM_someOf : Int32) (iM_allOf : Int32) (iM_allWeight : Int64) (iM_enoughWeight : Int64) (iM_worthSum : Int64) (iM_firstRest : Int32) (iM_leastDrawn : Int32) (p0 : Int32) (b_iM_taped : 0 ≤ iM_taped.toInt ∧ iM_taped.toInt ≤ 900) (b_iM_size : 0 ≤ iM_size.toInt ∧ iM_size.toInt ≤ 900) (b_iM_end : 0 ≤ iM_end.toInt ∧ iM_end.toInt ≤ 900) (b_iM_failed : 0 ≤ iM_failed.toInt ∧ iM_failed.toInt ≤ 1) (b_iM_hasCourt : 0 ≤ iM_hasCourt.toInt ∧ iM_hasCourt.toInt ≤ 1) (b_iM_undos : 0 ≤ iM_undos.toInt ∧ iM_undos.toInt ≤ 16) (b_iM_images : 0 ≤ iM_images.toInt ∧ iM_images.toInt ≤ 3) (b_iM_scale : 1 ≤ iM_scale.toInt ∧ iM_scale.toInt ≤ 1296) (b_iM_breaths : 0 ≤ iM_breaths.toInt ∧ iM_breaths.toInt ≤ 399) (b_iM_cutMany : 0 ≤ iM_cutMany.toInt ∧ iM_cutMany.toInt ≤ 399)  : Met l yX7_seekRests (Cond.code yX7_seekRests cX7_seekRests 6 (some .int) :: wG) ({ frames := 1, cells := 0, slots := 0, locals := 22 }) (va_Pc [.ref oM, .int p0] (Pw dC dI sz [(oc7 oM iM_thrown rM_tape iM_taped iM_size iM_at iM_end iM_token iM_whole iM_nameSize iM_fault iM_place iM_trouble rM_letters iM_failed iM_hasCourt rM_r rM_fresh rM_told rM_read rM_st rM_undone rM_kept iM_undos iM_images rM_fresher iM_fresherSize iM_scale iM_night rM_heardRow rM_cutRow iM_breaths iM_cutMany iM_allBreaths rM_trial rM_words iM_fewestBreaths iM_orderMany iM_orderSum iM_leastOrder rM_often iM_setMany iM_someOf iM_allOf iM_allWeight iM_enoughWeight iM_worthSum iM_firstRest iM_leastDrawn)] [])) (va_Qi (fun (r : Int32) (u : Nat) => (True ∧ True) ∧ r = Int32.ofNat u) (fun (u : Nat) (t : State) => ∃ (niM_firstRest : Int32), (PX7_seekRests p0 = (Int32.ofNat u, niM_firstRest)) ∧ Bw dC dI (va_A [(oc7 oM iM_thrown rM_tape iM_taped iM_size iM_at iM_end iM_token iM_whole iM_nameSize iM_fault iM_place iM_trouble rM_letters iM_failed iM_hasCourt rM_r rM_fresh rM_told rM_read rM_st rM_undone rM_kept iM_undos iM_images rM_fresher iM_fresherSize iM_scale iM_night rM_heardRow rM_cutRow iM_breaths iM_cutMany iM_allBreaths rM_trial rM_words iM_fewestBreaths iM_orderMany iM_orderSum iM_leastOrder rM_often iM_setMany iM_someOf iM_allOf iM_allWeight iM_enoughWeight iM_worthSum iM_firstRest iM_leastDrawn)] sz) [(oc7 oM iM_thrown rM_tape iM_taped iM_size iM_at iM_end iM_token iM_whole iM_nameSize iM_fault iM_place iM_trouble rM_letters iM_failed iM_hasCourt rM_r rM_fresh rM_told rM_read rM_st rM_undone rM_kept iM_undos iM_images rM_fresher iM_fresherSize iM_scale iM_night rM_heardRow rM_cutRow iM_breaths iM_cutMany iM_allBreaths rM_trial rM_words iM_fewestBreaths iM_orderMany iM_orderSum iM_leastOrder rM_often iM_setMany iM_someOf iM_allOf iM_allWeight iM_enoughWeight iM_worthSum niM_firstRest iM_leastDrawn)] [] t) (va_A [(oc7 oM iM_thrown rM_tape iM_taped iM_size iM_at iM_end iM_token iM_whole iM_nameSize iM_fault iM_place iM_trouble rM_letters iM_failed iM_hasCourt rM_r rM_fresh rM_told rM_read rM_st rM_undone rM_kept iM_undos iM_images rM_fresher iM_fresherSize iM_scale iM_night rM_heardRow rM_cutRow iM_breaths iM_cutMany iM_allBreaths rM_trial rM_words iM_fewestBreaths iM_orderMany iM_orderSum iM_leastOrder rM_often iM_setMany iM_someOf iM_allOf iM_allWeight iM_enoughWeight iM_worthSum iM_firstRest iM_leastDrawn)] sz)) 0 0 (va_A [(oc7 oM iM_thrown rM_tape iM_taped iM_size iM_at iM_end iM_token iM_whole iM_nameSize iM_fault iM_place iM_trouble rM_letters iM_failed iM_hasCourt rM_r rM_fresh rM_told rM_read rM_st rM_undone rM_kept iM_undos iM_images rM_fresher iM_fresherSize iM_scale iM_night rM_heardRow rM_cutRow iM_breaths iM_cutMany iM_allBreaths rM_trial rM_words iM_fewestBreaths iM_orderMany iM_orderSum iM_leastOrder rM_often iM_setMany iM_someOf iM_allOf iM_allWeight iM_enoughWeight iM_worthSum iM_firstRest iM_leastDrawn)] sz) := by
  refine Met.ofW (cc := cX7_seekRests) (maxL := 6) (ret := (some .int)) (by decide) rfl ?_
  intro p e s m args below meth c s₁ B hml hv
  obtain ⟨rfl, hsz, hP, hK, hD0, hE⟩ := hv
  have hx := B.exec
  have hb := B.bytes
  have hr := B.returns
  have hts : ∀ w ∈ wG, w.before ([.ref oM, .int p0] : List Value).toArray s = true := fun w h => atoms_spec (ws := Cond.code yX7_seekRests cX7_seekRests 6 (some .int) :: wG) B.pre w (List.mem_cons_of_mem _ h)
  have hown : s.vm.findClass RX7 = some m.cls := findClass_of_methodNamed B.named
  have hlocks := B.notSynchronized
  subst hsz
  have hD := hD0.self (sz := s.heap.size)
  generalize hAe : va_A [(oc7 oM iM_thrown rM_tape iM_taped iM_size iM_at iM_end iM_token iM_whole iM_nameSize iM_fault iM_place iM_trouble rM_letters iM_failed iM_hasCourt rM_r rM_fresh rM_told rM_read rM_st rM_undone rM_kept iM_undos iM_images rM_fresher iM_fresherSize iM_scale iM_night rM_heardRow rM_cutRow iM_breaths iM_cutMany iM_allBreaths rM_trial rM_words iM_fewestBreaths iM_orderMany iM_orderSum iM_leastOrder rM_often iM_setMany iM_someOf iM_allOf iM_allWeight iM_enoughWeight iM_worthSum iM_firstRest iM_leastDrawn)] s.heap.size = A at hD hE ⊢
  have hA : ∀ q : Nat, s.heap.size ≤ q → A q := fun q h => by rw [← hAe]; exact Or.inr h
  have hS : va_S A s.heap s.heap [] := va_S.rf
  have hl := lv_entry ([.ref oM, .int p0]) (n := 6) (Nat.le_of_ble_eq_true rfl)
  rw [lg_entry_eq]
  generalize (lg_sl ([.ref oM, .int p0]) ++ List.replicate (6 - (lg_sl ([.ref oM, .int p0])).length) Slot.unset).toArray = ls at hl ⊢
  have hl : lv_has ls 6 [(0, .ref oM), (1, .int p0)] := hl
  have hG := PX7_seekRests_eq p0
  have rg_p0 := fb_rng p0
  refine lv_iconst (v := 0) hx hb dX7_seekRests_0 (by decide) ?_
  refine lv_istore_n (lv' := [(2, .int 0), (0, .ref oM), (1, .int p0)]) hx hb dX7_seekRests_1 rfl hl (by decide) rfl (fun ls hl => ?_)
  refine lv_aload_n hx hb dX7_seekRests_2 rfl (lv_at hl 1 rfl) ?_
  refine lv_bipush (v := (-2)) hx hb dX7_seekRests_3 (by decide) ?_
  refine va_put (D := (dC, dI)) (ci := 7) (v := .int (-2)) (ty := .int) (C := RX7) (T := TX7) (N := 48) hx hb hts inX7 tyX7 tyX7_ok nmX7 hown hK hP hD hS 0 rfl rfl 46 (by decide) (hts _ wd_1315) (fun _ h9 => h9) rfl (by decide +kernel) rfl rfl (Nat.le_of_ble_eq_true rfl) dX7_seekRests_5 (fun H locs hP hD hS => ?_)
  obtain ⟨hP, hD⟩ := wl2 (ws' := [(oc7 oM iM_thrown rM_tape iM_taped iM_size iM_at iM_end iM_token iM_whole iM_nameSize iM_fault iM_place iM_trouble rM_letters iM_failed iM_hasCourt rM_r rM_fresh rM_told rM_read rM_st rM_undone rM_kept iM_undos iM_images rM_fresher iM_fresherSize iM_scale iM_night rM_heardRow rM_cutRow iM_breaths iM_cutMany iM_allBreaths rM_trial rM_words iM_fewestBreaths iM_orderMany iM_orderSum iM_leastOrder rM_often iM_setMany iM_someOf iM_allOf iM_allWeight iM_enoughWeight iM_worthSum (-2) iM_leastDrawn)]) hP hD rfl
  refine lv_iconst (v := 0) hx hb dX7_seekRests_8 (by decide) ?_
  refine lv_istore_n (lv' := [(3, .int 0), (2, .int 0), (0, .ref oM), (1, .int p0)]) hx hb dX7_seekRests_9 rfl hl (by decide) rfl (fun ls hl => ?_)
  have hl := lv_sub hl (l' := [(3, .int 0), (2, .int 0), (0, .ref oM), (1, .int p0)]) [0, 1, 2, 3] rfl
  have key_n_3074 : ∀ (n_3074 : Nat) (z_3071 : Int32) (z_3072 : Int32) (z_3073 : Int32) (H : Heap) (locs : List Loc) (ls : Array Slot), (0 ≤ z_3071.toInt ∧ z_3071.toInt ≤ 2147483647) → (2147483647 - z_3071.toInt).toNat < n_3074 → (PX7_seekRests p0 = HX7_seekRests_0 p0 n_3074 z_3071 z_3072 z_3073) → va_P (dC, dI) vwCl [(oc7 oM iM_thrown rM_tape iM_taped iM_size iM_at iM_end iM_token iM_whole iM_nameSize iM_fault iM_place iM_trouble rM_letters iM_failed iM_hasCourt rM_r rM_fresh rM_told rM_read rM_st rM_undone rM_kept iM_undos iM_images rM_fresher iM_fresherSize iM_scale iM_night rM_heardRow rM_cutRow iM_breaths iM_cutMany iM_allBreaths rM_trial rM_words iM_fewestBreaths iM_orderMany iM_orderSum iM_leastOrder rM_often iM_setMany iM_someOf iM_allOf iM_allWeight iM_enoughWeight iM_worthSum z_3073 iM_leastDrawn)] H → va_D A [(oc7 oM iM_thrown rM_tape iM_taped iM_size iM_at iM_end iM_token iM_whole iM_nameSize iM_fault iM_place iM_trouble rM_letters iM_failed iM_hasCourt rM_r rM_fresh rM_told rM_read rM_st rM_undone rM_kept iM_undos iM_images rM_fresher iM_fresherSize iM_scale iM_night rM_heardRow rM_cutRow iM_breaths iM_cutMany iM_allBreaths rM_trial rM_words iM_fewestBreaths iM_orderMany iM_orderSum iM_leastOrder rM_often iM_setMany iM_someOf iM_allOf iM_allWeight iM_enoughWeight iM_worthSum z_3073 iM_leastDrawn)] → va_S A s.heap H locs → lv_has ls 6 [(3, .int z_3071), (2, .int z_3072), (0, .ref oM), (1, .int p0)] → W p l e (headSpec (Cond.code yX7_seekRests cX7_seekRests 6 (some .int) :: wG) ({ frames := 1, cells := 0, slots := 0, locals := 22 })).room s m ([.ref oM, .int p0] : List Value).toArray below meth c H locs 0 0 (MQ below (va_Qi (fun (r : Int32) (u : Nat) => (True ∧ True) ∧ r = Int32.ofNat u) (fun (u : Nat) (t : State) => ∃ (niM_firstRest : Int32), (PX7_seekRests p0 = (Int32.ofNat u, niM_firstRest)) ∧ Bw dC dI A [(oc7 oM iM_thrown rM_tape iM_taped iM_size iM_at iM_end iM_token iM_whole iM_nameSize iM_fault iM_place iM_trouble rM_letters iM_failed iM_hasCourt rM_r rM_fresh rM_told rM_read rM_st rM_undone rM_kept iM_undos iM_images rM_fresher iM_fresherSize iM_scale iM_night rM_heardRow rM_cutRow iM_breaths iM_cutMany iM_allBreaths rM_trial rM_words iM_fewestBreaths iM_orderMany iM_orderSum iM_leastOrder rM_often iM_setMany iM_someOf iM_allOf iM_allWeight iM_enoughWeight iM_worthSum niM_firstRest iM_leastDrawn)] [] t) A) ([.ref oM, .int p0] : List Value).toArray s 0 0 A) (F0 m 10 ls []) := by
    intro n_3074
    induction n_3074 with
    | zero => intro z_3071 z_3072 z_3073 H locs ls hi0_n_3074 hm; exact absurd hm (by omega)
    | succ n_3074 ih_n_3074 =>
      intro z_3071 z_3072 z_3073 H locs ls hi0_n_3074 hm hG hP hD hS hl
      have hG := hG.trans (HX7_seekRests_0_eq _ _ _ _ _)
      have rg_z_3071 := fb_rng z_3071
      have rg_z_3072 := fb_rng z_3072
      have rg_z_3073 := fb_rng z_3073
      refine lv_iload_n hx hb dX7_seekRests_10 rfl (lv_at hl 0 rfl) ?_
      refine lv_iconst (v := 4) hx hb dX7_seekRests_11 (by decide) ?_
      refine lv_icmp_ge (tgt := 125) hx hb dX7_seekRests_12 (by decide) (fun c_3075 => ?_) (fun c_3075 => ?_)
      · skip
        have hG := hG.trans (if_pos c_3075)
        have gc_3075 := ti_le c_3075 kc_4 rfl
        refine lv_iload_n hx hb dX7_seekRests_125 rfl (lv_at hl 1 rfl) ?_
        exact W.iret hx hb hr (fun t ht hW => ⟨⟨_, (cI z_3072), rfl, ⟨⟨trivial, trivial⟩, (cI_of z_3072)⟩, ⟨z_3073, (cI_tup hG), Bw.to (hP.sub [0] rfl) (hD.sub [0] (by decide) rfl) (hK.sub [] rfl) ht hW⟩⟩, hS.F ht⟩) hS.2.2 dX7_seekRests_126
      · skip
        have hG := hG.trans (if_neg c_3075)
        have gc_3075 := ti_nle c_3075 kc_4 rfl
        refine lv_iload_n hx hb dX7_seekRests_15 rfl (lv_at hl 0 rfl) ?_
        refine lv_iconst (v := 1) hx hb dX7_seekRests_16 (by decide) ?_
        refine lv_icmp_le (tgt := 24) hx hb dX7_seekRests_17 (by decide) (fun c_3076 => ?_) (fun c_3076 => ?_)
        · skip
          have hG := hG.trans (if_pos c_3076)
          have gc_3076 := ti_le c_3076 rfl kc_1
          refine lv_iconst (v := 0) hx hb dX7_seekRests_24 (by decide) ?_
          refine lv_istore (lv' := [(4, .int 0), (3, .int z_3071), (2, .int z_3072), (0, .ref oM), (1, .int p0)]) hx hb dX7_seekRests_25 hl (by decide) rfl (fun ls hl => ?_)
          refine lv_iload_n hx hb dX7_seekRests_27 rfl (lv_at hl 1 rfl) ?_
          refine lv_iconst (v := 2) hx hb dX7_seekRests_28 (by decide) ?_
          refine lv_irem hx hb dX7_seekRests_29 (by decide) ?_
          refine lv_topi (fun x_3077 ex_3077 => ?_)
          have hG := hG.trans (lt_eq ex_3077)
          have rg_x_3077 := fb_rng x_3077
          have qx_3077 := ti_rem ex_3077 rfl kc_2 (by omega) (by omega)
          have Qx_3077 := ti_remE ex_3077 rfl kc_2 (by omega) (by omega)
          refine lv_iconst (v := 1) hx hb dX7_seekRests_30 (by decide) ?_
          refine lv_icmp_ne (tgt := 38) hx hb dX7_seekRests_31 (by decide) (fun c_3078 => ?_) (fun c_3078 => ?_)
          · skip
            have hG := hG.trans (if_neg c_3078)
            have gc_3078 := ti_ne c_3078 rfl kc_1
            refine lv_iconst (v := 0) hx hb dX7_seekRests_38 (by decide) ?_
            refine lv_istore (lv' := [(5, .int 0), (4, .int 0), (3, .int z_3071), (2, .int z_3072), (0, .ref oM), (1, .int p0)]) hx hb dX7_seekRests_39 hl (by decide) rfl (fun ls hl => ?_)
            refine lv_iload_n hx hb dX7_seekRests_41 rfl (lv_at hl 5 rfl) ?_
            refine lv_iload hx hb dX7_seekRests_42 (lv_at hl 1 rfl) ?_
            refine lv_if_ne (tgt := 51) hx hb dX7_seekRests_44 (by decide) (fun c => absurd c (by decide)) (fun _ => ?_)
            refine lv_iconst (v := 1) hx hb dX7_seekRests_47 (by decide) ?_
            refine lv_goto (tgt := 52) hx hb dX7_seekRests_48 (by decide) ?_
            refine lv_iload hx hb dX7_seekRests_52 (lv_at hl 0 rfl) ?_
            have hFc : ∀ q, va_A [] _ q → A q := fun q h => hA q (Nat.le_trans hS.1 (va_nilA h))
            refine va_calli (va_runS (As := [.int p0, .int 1, .int 0]) (rest := []) ⟨hx, hb, hml, hown, hts⟩ (tX7_speaksOf l dC dI _ p0 1 0 ) (va_cwS 3 hts (wd_S wd_1297 wd_1298 wd_5 (wd_c wd_1299)) rfl rfl rfl (by decide +kernel) ⟨Nat.le_of_ble_eq_true rfl, Nat.le_of_ble_eq_true rfl⟩) ⟨Pw.fb, fun U hU hW => Pn.to hK hE hS hA hU hW⟩ rfl rfl hl.1 rfl (lv_room (Nat.le_of_ble_eq_true rfl)) dX7_seekRests_54 ⟨Nat.le_of_ble_eq_true rfl, Nat.le_of_ble_eq_true rfl⟩) hS (fun q _ h => hFc q h) hFc (fun r u t H locs ht hvm hw hB hz1 hk1 hS => ?_)
            obtain ⟨hP, hD, hK⟩ := Bw.same ht hvm hP hD hK hk1 hFc
            clear hz1 hk1 hvm ht hB
            have hq9 := hw.2
            have hw := hw.1
            obtain ⟨x_3080, rfl⟩ : ∃ z, z = r := ⟨_, rfl⟩
            have hq_x_3080 := hq9
            have hG := hG.trans (lt_eq hq_x_3080.symm)
            have rg_x_3080 := fb_rng x_3080
            refine lv_iload_n hx hb dX7_seekRests_57 rfl (lv_at hl 5 rfl) ?_
            refine lv_iload hx hb dX7_seekRests_58 (lv_at hl 1 rfl) ?_
            refine lv_iload hx hb dX7_seekRests_60 (lv_at hl 0 rfl) ?_
            have hFc : ∀ q, va_A [] _ q → A q := fun q h => hA q (Nat.le_trans hS.1 (va_nilA h))
            refine va_calli (va_runS (As := [.int p0, .int 0, .int 0]) (rest := [.int x_3080]) ⟨hx, hb, hml, hown, hts⟩ (tX7_speaksOf l dC dI _ p0 0 0 ) (va_cwS 3 hts (wd_S wd_1297 wd_1298 wd_5 (wd_c wd_1299)) rfl rfl rfl (by decide +kernel) ⟨Nat.le_of_ble_eq_true rfl, Nat.le_of_ble_eq_true rfl⟩) ⟨Pw.fb, fun U hU hW => Pn.to hK hE hS hA hU hW⟩ rfl rfl hl.1 rfl (lv_room (Nat.le_of_ble_eq_true rfl)) dX7_seekRests_62 ⟨Nat.le_of_ble_eq_true rfl, Nat.le_of_ble_eq_true rfl⟩) hS (fun q _ h => hFc q h) hFc (fun r u t H locs ht hvm hw hB hz1 hk1 hS => ?_)
            obtain ⟨hP, hD, hK⟩ := Bw.same ht hvm hP hD hK hk1 hFc
            clear hz1 hk1 hvm ht hB
            have hq9 := hw.2
            have hw := hw.1
            obtain ⟨x_3081, rfl⟩ : ∃ z, z = r := ⟨_, rfl⟩
            have hq_x_3081 := hq9
            have hG := hG.trans (lt_eq hq_x_3081.symm)
            have rg_x_3081 := fb_rng x_3081
            refine lv_icmp_gt (tgt := 119) hx hb dX7_seekRests_65 (by decide) (fun c_3082 => ?_) (fun c_3082 => ?_)
            · skip
              have hG := hG.trans (if_pos c_3082)
              have gc_3082 := ti_lt c_3082 rfl rfl
              obtain ⟨x_3083, ex_3083⟩ : ∃ z : Int32, z = z_3071 + Int32.ofInt 1 := ⟨_, rfl⟩
              have hG := hG.trans (lt_eq ex_3083)
              have vx_3083 : x_3083.toInt = z_3071.toInt + 1 := by have q := ti_add (y := 1) ex_3083 rfl kc_1 (by omega) (by omega); omega
              refine lv_iinc (v := x_3083) (lv' := [(3, .int x_3083), (5, .int 0), (4, .int 0), (2, .int z_3072), (0, .ref oM), (1, .int p0)]) hx hb dX7_seekRests_119 hl (k := 2) rfl ex_3083.symm (by decide) rfl (fun ls hl => ?_)
              refine lv_goto (tgt := 10) hx hb dX7_seekRests_122 (by decide) ?_
              exact ih_n_3074 x_3083 z_3072 z_3073 _ _ _  (by first | omega | decide | assumption) (by omega) hG (hP.sub [0] rfl) (hD.sub [0] (by decide) rfl) hS (lv_sub hl [0, 3, 4, 5] rfl)
            · skip
              have hG := hG.trans (if_neg c_3082)
              have gc_3082 := ti_nlt c_3082 rfl rfl
              refine lv_iload_n hx hb dX7_seekRests_68 rfl (lv_at hl 5 rfl) ?_
              refine lv_iload hx hb dX7_seekRests_69 (lv_at hl 0 rfl) ?_
              refine lv_if_ne (tgt := 78) hx hb dX7_seekRests_71 (by decide) (fun c => absurd c (by decide)) (fun _ => ?_)
              refine lv_iconst (v := 1) hx hb dX7_seekRests_74 (by decide) ?_
              refine lv_goto (tgt := 79) hx hb dX7_seekRests_75 (by decide) ?_
              refine lv_iload hx hb dX7_seekRests_79 (lv_at hl 1 rfl) ?_
              have hFc : ∀ q, va_A [] _ q → A q := fun q h => hA q (Nat.le_trans hS.1 (va_nilA h))
              refine va_calli (va_runS (As := [.int p0, .int 1, .int 0]) (rest := []) ⟨hx, hb, hml, hown, hts⟩ (tX7_speaksOf l dC dI _ p0 1 0 ) (va_cwS 3 hts (wd_S wd_1297 wd_1298 wd_5 (wd_c wd_1299)) rfl rfl rfl (by decide +kernel) ⟨Nat.le_of_ble_eq_true rfl, Nat.le_of_ble_eq_true rfl⟩) ⟨Pw.fb, fun U hU hW => Pn.to hK hE hS hA hU hW⟩ rfl rfl hl.1 rfl (lv_room (Nat.le_of_ble_eq_true rfl)) dX7_seekRests_81 ⟨Nat.le_of_ble_eq_true rfl, Nat.le_of_ble_eq_true rfl⟩) hS (fun q _ h => hFc q h) hFc (fun r u t H locs ht hvm hw hB hz1 hk1 hS => ?_)
              obtain ⟨hP, hD, hK⟩ := Bw.same ht hvm hP hD hK hk1 hFc
              clear hz1 hk1 hvm ht hB
              have hq9 := hw.2
              have hw := hw.1
              obtain ⟨x_3085, rfl⟩ : ∃ z, z = r := ⟨_, rfl⟩
              have hq_x_3085 := hq9
              have hG := hG.trans (lt_eq hq_x_3085.symm)
              have rg_x_3085 := fb_rng x_3085
              refine lv_iload_n hx hb dX7_seekRests_84 rfl (lv_at hl 5 rfl) ?_
              refine lv_iload hx hb dX7_seekRests_85 (lv_at hl 0 rfl) ?_
              refine lv_iload hx hb dX7_seekRests_87 (lv_at hl 1 rfl) ?_
              have hFc : ∀ q, va_A [] _ q → A q := fun q h => hA q (Nat.le_trans hS.1 (va_nilA h))
              refine va_calli (va_runS (As := [.int p0, .int 0, .int 0]) (rest := [.int x_3085]) ⟨hx, hb, hml, hown, hts⟩ (tX7_speaksOf l dC dI _ p0 0 0 ) (va_cwS 3 hts (wd_S wd_1297 wd_1298 wd_5 (wd_c wd_1299)) rfl rfl rfl (by decide +kernel) ⟨Nat.le_of_ble_eq_true rfl, Nat.le_of_ble_eq_true rfl⟩) ⟨Pw.fb, fun U hU hW => Pn.to hK hE hS hA hU hW⟩ rfl rfl hl.1 rfl (lv_room (Nat.le_of_ble_eq_true rfl)) dX7_seekRests_89 ⟨Nat.le_of_ble_eq_true rfl, Nat.le_of_ble_eq_true rfl⟩) hS (fun q _ h => hFc q h) hFc (fun r u t H locs ht hvm hw hB hz1 hk1 hS => ?_)
              obtain ⟨hP, hD, hK⟩ := Bw.same ht hvm hP hD hK hk1 hFc
              clear hz1 hk1 hvm ht hB
              have hq9 := hw.2
              have hw := hw.1
              obtain ⟨x_3086, rfl⟩ : ∃ z, z = r := ⟨_, rfl⟩
              have hq_x_3086 := hq9
              have hG := hG.trans (lt_eq hq_x_3086.symm)
              have rg_x_3086 := fb_rng x_3086
              refine lv_icmp_le (tgt := 98) hx hb dX7_seekRests_92 (by decide) (fun c_3087 => ?_) (fun c_3087 => ?_)
              · skip
                have hG := hG.trans (if_pos c_3087)
                have gc_3087 := ti_le c_3087 rfl rfl
                refine lv_iload_n hx hb dX7_seekRests_98 rfl (lv_at hl 3 rfl) ?_
                refine lv_if_ne (tgt := 116) hx hb dX7_seekRests_99 (by decide) (fun c_3088 => ?_) (fun c_3088 => ?_)
                · skip
                  have hG := hG.trans (if_neg c_3088)
                  have gc_3088 := ti_ne c_3088 rfl kc_0
                  obtain ⟨x_3089, ex_3089⟩ : ∃ z : Int32, z = z_3072 + Int32.ofInt 1 := ⟨_, rfl⟩
                  have hG := hG.trans (lt_eq ex_3089)
                  have rg_x_3089 := fb_rng x_3089
                  refine lv_iinc (v := x_3089) (lv' := [(2, .int x_3089), (5, .int 0), (4, .int 0), (3, .int z_3071), (0, .ref oM), (1, .int p0)]) hx hb dX7_seekRests_116 hl (k := 3) rfl ex_3089.symm (by decide) rfl (fun ls hl => ?_)
                  obtain ⟨x_3090, ex_3090⟩ : ∃ z : Int32, z = z_3071 + Int32.ofInt 1 := ⟨_, rfl⟩
                  have hG := hG.trans (lt_eq ex_3090)
                  have vx_3090 : x_3090.toInt = z_3071.toInt + 1 := by have q := ti_add (y := 1) ex_3090 rfl kc_1 (by omega) (by omega); omega
                  refine lv_iinc (v := x_3090) (lv' := [(3, .int x_3090), (2, .int x_3089), (5, .int 0), (4, .int 0), (0, .ref oM), (1, .int p0)]) hx hb dX7_seekRests_119 hl (k := 3) rfl ex_3090.symm (by decide) rfl (fun ls hl => ?_)
                  refine lv_goto (tgt := 10) hx hb dX7_seekRests_122 (by decide) ?_
                  exact ih_n_3074 x_3090 x_3089 z_3073 _ _ _  (by first | omega | decide | assumption) (by omega) hG (hP.sub [0] rfl) (hD.sub [0] (by decide) rfl) hS (lv_sub hl [0, 1, 4, 5] rfl)
                · skip
                  have hG := hG.trans (if_pos c_3088)
                  have gc_3088 := ti_eq c_3088 rfl kc_0
                  refine lv_aload_n hx hb dX7_seekRests_102 rfl (lv_at hl 4 rfl) ?_
                  refine lv_bipush (v := 10) hx hb dX7_seekRests_103 (by decide) ?_
                  refine lv_iload_n hx hb dX7_seekRests_105 rfl (lv_at hl 2 rfl) ?_
                  refine lv_iconst (v := 2) hx hb dX7_seekRests_106 (by decide) ?_
                  refine lv_idiv hx hb dX7_seekRests_107 (by decide) ?_
                  refine lv_topi (fun x_3091 ex_3091 => ?_)
                  have hG := hG.trans (lt_eq ex_3091)
                  have rg_x_3091 := fb_rng x_3091
                  have qx_3091 := ti_div ex_3091 rfl kc_2 (by omega) (by omega)
                  have Qx_3091 := ti_divE ex_3091 rfl kc_2 (by omega) (by omega)
                  refine lv_imul hx hb dX7_seekRests_108 ?_
                  refine lv_topi (fun x_3092 ex_3092 => ?_)
                  have hG := hG.trans (lt_eq ex_3092)
                  have vx_3092 : x_3092.toInt = 10 * x_3091.toInt := by have q := ti_mul ex_3092 kc_10 rfl (by omega) (by omega); omega
                  refine lv_iload_n hx hb dX7_seekRests_109 rfl (lv_at hl 2 rfl) ?_
                  refine lv_iconst (v := 2) hx hb dX7_seekRests_110 (by decide) ?_
                  refine lv_irem hx hb dX7_seekRests_111 (by decide) ?_
                  refine lv_topi (fun x_3093 ex_3093 => ?_)
                  have hG := hG.trans (lt_eq ex_3093)
                  have rg_x_3093 := fb_rng x_3093
                  have qx_3093 := ti_rem ex_3093 rfl kc_2 (by omega) (by omega)
                  have Qx_3093 := ti_remE ex_3093 rfl kc_2 (by omega) (by omega)
                  refine lv_iadd hx hb dX7_seekRests_112 ?_
                  refine lv_topi (fun x_3094 ex_3094 => ?_)
                  have hG := hG.trans (lt_eq ex_3094)
                  have vx_3094 : x_3094.toInt = 10 * x_3091.toInt + x_3093.toInt := by have q := ti_add ex_3094 vx_3092 rfl (by omega) (by omega); omega
                  refine va_put (D := (dC, dI)) (ci := 7) (v := .int x_3094) (ty := .int) (C := RX7) (T := TX7) (N := 48) hx hb hts inX7 tyX7 tyX7_ok nmX7 hown hK hP hD hS 0 rfl rfl 46 (by decide) (hts _ wd_1315) (fun _ h9 => h9) rfl (by decide +kernel) rfl rfl (Nat.le_of_ble_eq_true rfl) dX7_seekRests_113 (fun H locs hP hD hS => ?_)
                  obtain ⟨hP, hD⟩ := wl2 (ws' := [(oc7 oM iM_thrown rM_tape iM_taped iM_size iM_at iM_end iM_token iM_whole iM_nameSize iM_fault iM_place iM_trouble rM_letters iM_failed iM_hasCourt rM_r rM_fresh rM_told rM_read rM_st rM_undone rM_kept iM_undos iM_images rM_fresher iM_fresherSize iM_scale iM_night rM_heardRow rM_cutRow iM_breaths iM_cutMany iM_allBreaths rM_trial rM_words iM_fewestBreaths iM_orderMany iM_orderSum iM_leastOrder rM_often iM_setMany iM_someOf iM_allOf iM_allWeight iM_enoughWeight iM_worthSum x_3094 iM_leastDrawn)]) hP hD rfl
                  obtain ⟨x_3095, ex_3095⟩ : ∃ z : Int32, z = z_3072 + Int32.ofInt 1 := ⟨_, rfl⟩
                  have hG := hG.trans (lt_eq ex_3095)
                  have vx_3095 : x_3095.toInt = z_3072.toInt + 1 := by have q := ti_add (y := 1) ex_3095 rfl kc_1 (by omega) (by omega); omega
                  refine lv_iinc (v := x_3095) (lv' := [(2, .int x_3095), (5, .int 0), (4, .int 0), (3, .int z_3071), (0, .ref oM), (1, .int p0)]) hx hb dX7_seekRests_116 hl (k := 3) rfl ex_3095.symm (by decide) rfl (fun ls hl => ?_)
                  obtain ⟨x_3096, ex_3096⟩ : ∃ z : Int32, z = z_3071 + Int32.ofInt 1 := ⟨_, rfl⟩
                  have hG := hG.trans (lt_eq ex_3096)
                  have vx_3096 : x_3096.toInt = z_3071.toInt + 1 := by have q := ti_add (y := 1) ex_3096 rfl kc_1 (by omega) (by omega); omega
                  refine lv_iinc (v := x_3096) (lv' := [(3, .int x_3096), (2, .int x_3095), (5, .int 0), (4, .int 0), (0, .ref oM), (1, .int p0)]) hx hb dX7_seekRests_119 hl (k := 3) rfl ex_3096.symm (by decide) rfl (fun ls hl => ?_)
                  refine lv_goto (tgt := 10) hx hb dX7_seekRests_122 (by decide) ?_
                  exact ih_n_3074 x_3096 x_3095 x_3094 _ _ _  (by first | omega | decide | assumption) (by omega) hG (hP.sub [0] rfl) (hD.sub [0] (by decide) rfl) hS (lv_sub hl [0, 1, 4, 5] rfl)
              · skip
                have hG := hG.trans (if_neg c_3087)
                have gc_3087 := ti_nle c_3087 rfl rfl
                refine lv_goto (tgt := 119) hx hb dX7_seekRests_95 (by decide) ?_
                obtain ⟨x_3097, ex_3097⟩ : ∃ z : Int32, z = z_3071 + Int32.ofInt 1 := ⟨_, rfl⟩
                have hG := hG.trans (lt_eq ex_3097)
                have vx_3097 : x_3097.toInt = z_3071.toInt + 1 := by have q := ti_add (y := 1) ex_3097 rfl kc_1 (by omega) (by omega); omega
                refine lv_iinc (v := x_3097) (lv' := [(3, .int x_3097), (5, .int 0), (4, .int 0), (2, .int z_3072), (0, .ref oM), (1, .int p0)]) hx hb dX7_seekRests_119 hl (k := 2) rfl ex_3097.symm (by decide) rfl (fun ls hl => ?_)
                refine lv_goto (tgt := 10) hx hb dX7_seekRests_122 (by decide) ?_
                exact ih_n_3074 x_3097 z_3072 z_3073 _ _ _  (by first | omega | decide | assumption) (by omega) hG (hP.sub [0] rfl) (hD.sub [0] (by decide) rfl) hS (lv_sub hl [0, 3, 4, 5] rfl)
          · skip
            have hG := hG.trans (if_pos c_3078)
            have gc_3078 := ti_eq c_3078 rfl kc_1
            refine lv_iconst (v := 1) hx hb dX7_seekRests_34 (by decide) ?_
            refine lv_goto (tgt := 39) hx hb dX7_seekRests_35 (by decide) ?_
            refine lv_istore (lv' := [(5, .int 1), (4, .int 0), (3, .int z_3071), (2, .int z_3072), (0, .ref oM), (1, .int p0)]) hx hb dX7_seekRests_39 hl (by decide) rfl (fun ls hl => ?_)
            refine lv_iload_n hx hb dX7_seekRests_41 rfl (lv_at hl 5 rfl) ?_
            refine lv_iload hx hb dX7_seekRests_42 (lv_at hl 1 rfl) ?_
            refine lv_if_ne (tgt := 51) hx hb dX7_seekRests_44 (by decide) (fun c => absurd c (by decide)) (fun _ => ?_)
            refine lv_iconst (v := 1) hx hb dX7_seekRests_47 (by decide) ?_
            refine lv_goto (tgt := 52) hx hb dX7_seekRests_48 (by decide) ?_
            refine lv_iload hx hb dX7_seekRests_52 (lv_at hl 0 rfl) ?_
            have hFc : ∀ q, va_A [] _ q → A q := fun q h => hA q (Nat.le_trans hS.1 (va_nilA h))
            refine va_calli (va_runS (As := [.int p0, .int 1, .int 1]) (rest := []) ⟨hx, hb, hml, hown, hts⟩ (tX7_speaksOf l dC dI _ p0 1 1 ) (va_cwS 3 hts (wd_S wd_1297 wd_1298 wd_5 (wd_c wd_1299)) rfl rfl rfl (by decide +kernel) ⟨Nat.le_of_ble_eq_true rfl, Nat.le_of_ble_eq_true rfl⟩) ⟨Pw.fb, fun U hU hW => Pn.to hK hE hS hA hU hW⟩ rfl rfl hl.1 rfl (lv_room (Nat.le_of_ble_eq_true rfl)) dX7_seekRests_54 ⟨Nat.le_of_ble_eq_true rfl, Nat.le_of_ble_eq_true rfl⟩) hS (fun q _ h => hFc q h) hFc (fun r u t H locs ht hvm hw hB hz1 hk1 hS => ?_)
            obtain ⟨hP, hD, hK⟩ := Bw.same ht hvm hP hD hK hk1 hFc
            clear hz1 hk1 hvm ht hB
            have hq9 := hw.2
            have hw := hw.1
            obtain ⟨x_3099, rfl⟩ : ∃ z, z = r := ⟨_, rfl⟩
            have hq_x_3099 := hq9
            have hG := hG.trans (lt_eq hq_x_3099.symm)
            have rg_x_3099 := fb_rng x_3099
            refine lv_iload_n hx hb dX7_seekRests_57 rfl (lv_at hl 5 rfl) ?_
            refine lv_iload hx hb dX7_seekRests_58 (lv_at hl 1 rfl) ?_
            refine lv_iload hx hb dX7_seekRests_60 (lv_at hl 0 rfl) ?_
            have hFc : ∀ q, va_A [] _ q → A q := fun q h => hA q (Nat.le_trans hS.1 (va_nilA h))
            refine va_calli (va_runS (As := [.int p0, .int 0, .int 1]) (rest := [.int x_3099]) ⟨hx, hb, hml, hown, hts⟩ (tX7_speaksOf l dC dI _ p0 0 1 ) (va_cwS 3 hts (wd_S wd_1297 wd_1298 wd_5 (wd_c wd_1299)) rfl rfl rfl (by decide +kernel) ⟨Nat.le_of_ble_eq_true rfl, Nat.le_of_ble_eq_true rfl⟩) ⟨Pw.fb, fun U hU hW => Pn.to hK hE hS hA hU hW⟩ rfl rfl hl.1 rfl (lv_room (Nat.le_of_ble_eq_true rfl)) dX7_seekRests_62 ⟨Nat.le_of_ble_eq_true rfl, Nat.le_of_ble_eq_true rfl⟩) hS (fun q _ h => hFc q h) hFc (fun r u t H locs ht hvm hw hB hz1 hk1 hS => ?_)
            obtain ⟨hP, hD, hK⟩ := Bw.same ht hvm hP hD hK hk1 hFc
            clear hz1 hk1 hvm ht hB
            have hq9 := hw.2
            have hw := hw.1
            obtain ⟨x_3100, rfl⟩ : ∃ z, z = r := ⟨_, rfl⟩
            have hq_x_3100 := hq9
            have hG := hG.trans (lt_eq hq_x_3100.symm)
            have rg_x_3100 := fb_rng x_3100
            refine lv_icmp_gt (tgt := 119) hx hb dX7_seekRests_65 (by decide) (fun c_3101 => ?_) (fun c_3101 => ?_)
            · skip
              have hG := hG.trans (if_pos c_3101)
              have gc_3101 := ti_lt c_3101 rfl rfl
              obtain ⟨x_3102, ex_3102⟩ : ∃ z : Int32, z = z_3071 + Int32.ofInt 1 := ⟨_, rfl⟩
              have hG := hG.trans (lt_eq ex_3102)
              have vx_3102 : x_3102.toInt = z_3071.toInt + 1 := by have q := ti_add (y := 1) ex_3102 rfl kc_1 (by omega) (by omega); omega
              refine lv_iinc (v := x_3102) (lv' := [(3, .int x_3102), (5, .int 1), (4, .int 0), (2, .int z_3072), (0, .ref oM), (1, .int p0)]) hx hb dX7_seekRests_119 hl (k := 2) rfl ex_3102.symm (by decide) rfl (fun ls hl => ?_)
              refine lv_goto (tgt := 10) hx hb dX7_seekRests_122 (by decide) ?_
              exact ih_n_3074 x_3102 z_3072 z_3073 _ _ _  (by first | omega | decide | assumption) (by omega) hG (hP.sub [0] rfl) (hD.sub [0] (by decide) rfl) hS (lv_sub hl [0, 3, 4, 5] rfl)
            · skip
              have hG := hG.trans (if_neg c_3101)
              have gc_3101 := ti_nlt c_3101 rfl rfl
              refine lv_iload_n hx hb dX7_seekRests_68 rfl (lv_at hl 5 rfl) ?_
              refine lv_iload hx hb dX7_seekRests_69 (lv_at hl 0 rfl) ?_
              refine lv_if_ne (tgt := 78) hx hb dX7_seekRests_71 (by decide) (fun _ => ?_) (fun c => absurd c (by decide))
              refine lv_iconst (v := 0) hx hb dX7_seekRests_78 (by decide) ?_
              refine lv_iload hx hb dX7_seekRests_79 (lv_at hl 1 rfl) ?_
              have hFc : ∀ q, va_A [] _ q → A q := fun q h => hA q (Nat.le_trans hS.1 (va_nilA h))
              refine va_calli (va_runS (As := [.int p0, .int 0, .int 0]) (rest := []) ⟨hx, hb, hml, hown, hts⟩ (tX7_speaksOf l dC dI _ p0 0 0 ) (va_cwS 3 hts (wd_S wd_1297 wd_1298 wd_5 (wd_c wd_1299)) rfl rfl rfl (by decide +kernel) ⟨Nat.le_of_ble_eq_true rfl, Nat.le_of_ble_eq_true rfl⟩) ⟨Pw.fb, fun U hU hW => Pn.to hK hE hS hA hU hW⟩ rfl rfl hl.1 rfl (lv_room (Nat.le_of_ble_eq_true rfl)) dX7_seekRests_81 ⟨Nat.le_of_ble_eq_true rfl, Nat.le_of_ble_eq_true rfl⟩) hS (fun q _ h => hFc q h) hFc (fun r u t H locs ht hvm hw hB hz1 hk1 hS => ?_)
              obtain ⟨hP, hD, hK⟩ := Bw.same ht hvm hP hD hK hk1 hFc
              clear hz1 hk1 hvm ht hB
              have hq9 := hw.2
              have hw := hw.1
              obtain ⟨x_3104, rfl⟩ : ∃ z, z = r := ⟨_, rfl⟩
              have hq_x_3104 := hq9
              have hG := hG.trans (lt_eq hq_x_3104.symm)
              have rg_x_3104 := fb_rng x_3104
              refine lv_iload_n hx hb dX7_seekRests_84 rfl (lv_at hl 5 rfl) ?_
              refine lv_iload hx hb dX7_seekRests_85 (lv_at hl 0 rfl) ?_
              refine lv_iload hx hb dX7_seekRests_87 (lv_at hl 1 rfl) ?_
              have hFc : ∀ q, va_A [] _ q → A q := fun q h => hA q (Nat.le_trans hS.1 (va_nilA h))
              refine va_calli (va_runS (As := [.int p0, .int 1, .int 0]) (rest := [.int x_3104]) ⟨hx, hb, hml, hown, hts⟩ (tX7_speaksOf l dC dI _ p0 1 0 ) (va_cwS 3 hts (wd_S wd_1297 wd_1298 wd_5 (wd_c wd_1299)) rfl rfl rfl (by decide +kernel) ⟨Nat.le_of_ble_eq_true rfl, Nat.le_of_ble_eq_true rfl⟩) ⟨Pw.fb, fun U hU hW => Pn.to hK hE hS hA hU hW⟩ rfl rfl hl.1 rfl (lv_room (Nat.le_of_ble_eq_true rfl)) dX7_seekRests_89 ⟨Nat.le_of_ble_eq_true rfl, Nat.le_of_ble_eq_true rfl⟩) hS (fun q _ h => hFc q h) hFc (fun r u t H locs ht hvm hw hB hz1 hk1 hS => ?_)
              obtain ⟨hP, hD, hK⟩ := Bw.same ht hvm hP hD hK hk1 hFc
              clear hz1 hk1 hvm ht hB
              have hq9 := hw.2
              have hw := hw.1
              obtain ⟨x_3105, rfl⟩ : ∃ z, z = r := ⟨_, rfl⟩
              have hq_x_3105 := hq9
              have hG := hG.trans (lt_eq hq_x_3105.symm)
              have rg_x_3105 := fb_rng x_3105
              refine lv_icmp_le (tgt := 98) hx hb dX7_seekRests_92 (by decide) (fun c_3106 => ?_) (fun c_3106 => ?_)
              · skip
                have hG := hG.trans (if_pos c_3106)
                have gc_3106 := ti_le c_3106 rfl rfl
                refine lv_iload_n hx hb dX7_seekRests_98 rfl (lv_at hl 3 rfl) ?_
                refine lv_if_ne (tgt := 116) hx hb dX7_seekRests_99 (by decide) (fun c_3107 => ?_) (fun c_3107 => ?_)
                · skip
                  have hG := hG.trans (if_neg c_3107)
                  have gc_3107 := ti_ne c_3107 rfl kc_0
                  obtain ⟨x_3108, ex_3108⟩ : ∃ z : Int32, z = z_3072 + Int32.ofInt 1 := ⟨_, rfl⟩
                  have hG := hG.trans (lt_eq ex_3108)
                  have rg_x_3108 := fb_rng x_3108
                  refine lv_iinc (v := x_3108) (lv' := [(2, .int x_3108), (5, .int 1), (4, .int 0), (3, .int z_3071), (0, .ref oM), (1, .int p0)]) hx hb dX7_seekRests_116 hl (k := 3) rfl ex_3108.symm (by decide) rfl (fun ls hl => ?_)
                  obtain ⟨x_3109, ex_3109⟩ : ∃ z : Int32, z = z_3071 + Int32.ofInt 1 := ⟨_, rfl⟩
                  have hG := hG.trans (lt_eq ex_3109)
                  have vx_3109 : x_3109.toInt = z_3071.toInt + 1 := by have q := ti_add (y := 1) ex_3109 rfl kc_1 (by omega) (by omega); omega
                  refine lv_iinc (v := x_3109) (lv' := [(3, .int x_3109), (2, .int x_3108), (5, .int 1), (4, .int 0), (0, .ref oM), (1, .int p0)]) hx hb dX7_seekRests_119 hl (k := 3) rfl ex_3109.symm (by decide) rfl (fun ls hl => ?_)
                  refine lv_goto (tgt := 10) hx hb dX7_seekRests_122 (by decide) ?_
                  exact ih_n_3074 x_3109 x_3108 z_3073 _ _ _  (by first | omega | decide | assumption) (by omega) hG (hP.sub [0] rfl) (hD.sub [0] (by decide) rfl) hS (lv_sub hl [0, 1, 4, 5] rfl)
                · skip
                  have hG := hG.trans (if_pos c_3107)
                  have gc_3107 := ti_eq c_3107 rfl kc_0
                  refine lv_aload_n hx hb dX7_seekRests_102 rfl (lv_at hl 4 rfl) ?_
                  refine lv_bipush (v := 10) hx hb dX7_seekRests_103 (by decide) ?_
                  refine lv_iload_n hx hb dX7_seekRests_105 rfl (lv_at hl 2 rfl) ?_
                  refine lv_iconst (v := 2) hx hb dX7_seekRests_106 (by decide) ?_
                  refine lv_idiv hx hb dX7_seekRests_107 (by decide) ?_
                  refine lv_topi (fun x_3110 ex_3110 => ?_)
                  have hG := hG.trans (lt_eq ex_3110)
                  have rg_x_3110 := fb_rng x_3110
                  have qx_3110 := ti_div ex_3110 rfl kc_2 (by omega) (by omega)
                  have Qx_3110 := ti_divE ex_3110 rfl kc_2 (by omega) (by omega)
                  refine lv_imul hx hb dX7_seekRests_108 ?_
                  refine lv_topi (fun x_3111 ex_3111 => ?_)
                  have hG := hG.trans (lt_eq ex_3111)
                  have vx_3111 : x_3111.toInt = 10 * x_3110.toInt := by have q := ti_mul ex_3111 kc_10 rfl (by omega) (by omega); omega
                  refine lv_iload_n hx hb dX7_seekRests_109 rfl (lv_at hl 2 rfl) ?_
                  refine lv_iconst (v := 2) hx hb dX7_seekRests_110 (by decide) ?_
                  refine lv_irem hx hb dX7_seekRests_111 (by decide) ?_
                  refine lv_topi (fun x_3112 ex_3112 => ?_)
                  have hG := hG.trans (lt_eq ex_3112)
                  have rg_x_3112 := fb_rng x_3112
                  have qx_3112 := ti_rem ex_3112 rfl kc_2 (by omega) (by omega)
                  have Qx_3112 := ti_remE ex_3112 rfl kc_2 (by omega) (by omega)
                  refine lv_iadd hx hb dX7_seekRests_112 ?_
                  refine lv_topi (fun x_3113 ex_3113 => ?_)
                  have hG := hG.trans (lt_eq ex_3113)
                  have vx_3113 : x_3113.toInt = 10 * x_3110.toInt + x_3112.toInt := by have q := ti_add ex_3113 vx_3111 rfl (by omega) (by omega); omega
                  refine va_put (D := (dC, dI)) (ci := 7) (v := .int x_3113) (ty := .int) (C := RX7) (T := TX7) (N := 48) hx hb hts inX7 tyX7 tyX7_ok nmX7 hown hK hP hD hS 0 rfl rfl 46 (by decide) (hts _ wd_1315) (fun _ h9 => h9) rfl (by decide +kernel) rfl rfl (Nat.le_of_ble_eq_true rfl) dX7_seekRests_113 (fun H locs hP hD hS => ?_)
                  obtain ⟨hP, hD⟩ := wl2 (ws' := [(oc7 oM iM_thrown rM_tape iM_taped iM_size iM_at iM_end iM_token iM_whole iM_nameSize iM_fault iM_place iM_trouble rM_letters iM_failed iM_hasCourt rM_r rM_fresh rM_told rM_read rM_st rM_undone rM_kept iM_undos iM_images rM_fresher iM_fresherSize iM_scale iM_night rM_heardRow rM_cutRow iM_breaths iM_cutMany iM_allBreaths rM_trial rM_words iM_fewestBreaths iM_orderMany iM_orderSum iM_leastOrder rM_often iM_setMany iM_someOf iM_allOf iM_allWeight iM_enoughWeight iM_worthSum x_3113 iM_leastDrawn)]) hP hD rfl
                  obtain ⟨x_3114, ex_3114⟩ : ∃ z : Int32, z = z_3072 + Int32.ofInt 1 := ⟨_, rfl⟩
                  have hG := hG.trans (lt_eq ex_3114)
                  have vx_3114 : x_3114.toInt = z_3072.toInt + 1 := by have q := ti_add (y := 1) ex_3114 rfl kc_1 (by omega) (by omega); omega
                  refine lv_iinc (v := x_3114) (lv' := [(2, .int x_3114), (5, .int 1), (4, .int 0), (3, .int z_3071), (0, .ref oM), (1, .int p0)]) hx hb dX7_seekRests_116 hl (k := 3) rfl ex_3114.symm (by decide) rfl (fun ls hl => ?_)
                  obtain ⟨x_3115, ex_3115⟩ : ∃ z : Int32, z = z_3071 + Int32.ofInt 1 := ⟨_, rfl⟩
                  have hG := hG.trans (lt_eq ex_3115)
                  have vx_3115 : x_3115.toInt = z_3071.toInt + 1 := by have q := ti_add (y := 1) ex_3115 rfl kc_1 (by omega) (by omega); omega
                  refine lv_iinc (v := x_3115) (lv' := [(3, .int x_3115), (2, .int x_3114), (5, .int 1), (4, .int 0), (0, .ref oM), (1, .int p0)]) hx hb dX7_seekRests_119 hl (k := 3) rfl ex_3115.symm (by decide) rfl (fun ls hl => ?_)
                  refine lv_goto (tgt := 10) hx hb dX7_seekRests_122 (by decide) ?_
                  exact ih_n_3074 x_3115 x_3114 x_3113 _ _ _  (by first | omega | decide | assumption) (by omega) hG (hP.sub [0] rfl) (hD.sub [0] (by decide) rfl) hS (lv_sub hl [0, 1, 4, 5] rfl)
              · skip
                have hG := hG.trans (if_neg c_3106)
                have gc_3106 := ti_nle c_3106 rfl rfl
                refine lv_goto (tgt := 119) hx hb dX7_seekRests_95 (by decide) ?_
                obtain ⟨x_3116, ex_3116⟩ : ∃ z : Int32, z = z_3071 + Int32.ofInt 1 := ⟨_, rfl⟩
                have hG := hG.trans (lt_eq ex_3116)
                have vx_3116 : x_3116.toInt = z_3071.toInt + 1 := by have q := ti_add (y := 1) ex_3116 rfl kc_1 (by omega) (by omega); omega
                refine lv_iinc (v := x_3116) (lv' := [(3, .int x_3116), (5, .int 1), (4, .int 0), (2, .int z_3072), (0, .ref oM), (1, .int p0)]) hx hb dX7_seekRests_119 hl (k := 2) rfl ex_3116.symm (by decide) rfl (fun ls hl => ?_)
                refine lv_goto (tgt := 10) hx hb dX7_seekRests_122 (by decide) ?_
                exact ih_n_3074 x_3116 z_3072 z_3073 _ _ _  (by first | omega | decide | assumption) (by omega) hG (hP.sub [0] rfl) (hD.sub [0] (by decide) rfl) hS (lv_sub hl [0, 3, 4, 5] rfl)
        · skip
          have hG := hG.trans (if_neg c_3076)
          have gc_3076 := ti_nle c_3076 rfl kc_1
          refine lv_iconst (v := 1) hx hb dX7_seekRests_20 (by decide) ?_
          refine lv_goto (tgt := 25) hx hb dX7_seekRests_21 (by decide) ?_
          refine lv_istore (lv' := [(4, .int 1), (3, .int z_3071), (2, .int z_3072), (0, .ref oM), (1, .int p0)]) hx hb dX7_seekRests_25 hl (by decide) rfl (fun ls hl => ?_)
          refine lv_iload_n hx hb dX7_seekRests_27 rfl (lv_at hl 1 rfl) ?_
          refine lv_iconst (v := 2) hx hb dX7_seekRests_28 (by decide) ?_
          refine lv_irem hx hb dX7_seekRests_29 (by decide) ?_
          refine lv_topi (fun x_3117 ex_3117 => ?_)
          have hG := hG.trans (lt_eq ex_3117)
          have rg_x_3117 := fb_rng x_3117
          have qx_3117 := ti_rem ex_3117 rfl kc_2 (by omega) (by omega)
          have Qx_3117 := ti_remE ex_3117 rfl kc_2 (by omega) (by omega)
          refine lv_iconst (v := 1) hx hb dX7_seekRests_30 (by decide) ?_
          refine lv_icmp_ne (tgt := 38) hx hb dX7_seekRests_31 (by decide) (fun c_3118 => ?_) (fun c_3118 => ?_)
          · skip
            have hG := hG.trans (if_neg c_3118)
            have gc_3118 := ti_ne c_3118 rfl kc_1
            refine lv_iconst (v := 0) hx hb dX7_seekRests_38 (by decide) ?_
            refine lv_istore (lv' := [(5, .int 0), (4, .int 1), (3, .int z_3071), (2, .int z_3072), (0, .ref oM), (1, .int p0)]) hx hb dX7_seekRests_39 hl (by decide) rfl (fun ls hl => ?_)
            refine lv_iload_n hx hb dX7_seekRests_41 rfl (lv_at hl 5 rfl) ?_
            refine lv_iload hx hb dX7_seekRests_42 (lv_at hl 1 rfl) ?_
            refine lv_if_ne (tgt := 51) hx hb dX7_seekRests_44 (by decide) (fun _ => ?_) (fun c => absurd c (by decide))
            refine lv_iconst (v := 0) hx hb dX7_seekRests_51 (by decide) ?_
            refine lv_iload hx hb dX7_seekRests_52 (lv_at hl 0 rfl) ?_
            have hFc : ∀ q, va_A [] _ q → A q := fun q h => hA q (Nat.le_trans hS.1 (va_nilA h))
            refine va_calli (va_runS (As := [.int p0, .int 0, .int 0]) (rest := []) ⟨hx, hb, hml, hown, hts⟩ (tX7_speaksOf l dC dI _ p0 0 0 ) (va_cwS 3 hts (wd_S wd_1297 wd_1298 wd_5 (wd_c wd_1299)) rfl rfl rfl (by decide +kernel) ⟨Nat.le_of_ble_eq_true rfl, Nat.le_of_ble_eq_true rfl⟩) ⟨Pw.fb, fun U hU hW => Pn.to hK hE hS hA hU hW⟩ rfl rfl hl.1 rfl (lv_room (Nat.le_of_ble_eq_true rfl)) dX7_seekRests_54 ⟨Nat.le_of_ble_eq_true rfl, Nat.le_of_ble_eq_true rfl⟩) hS (fun q _ h => hFc q h) hFc (fun r u t H locs ht hvm hw hB hz1 hk1 hS => ?_)
            obtain ⟨hP, hD, hK⟩ := Bw.same ht hvm hP hD hK hk1 hFc
            clear hz1 hk1 hvm ht hB
            have hq9 := hw.2
            have hw := hw.1
            obtain ⟨x_3120, rfl⟩ : ∃ z, z = r := ⟨_, rfl⟩
            have hq_x_3120 := hq9
            have hG := hG.trans (lt_eq hq_x_3120.symm)
            have rg_x_3120 := fb_rng x_3120
            refine lv_iload_n hx hb dX7_seekRests_57 rfl (lv_at hl 5 rfl) ?_
            refine lv_iload hx hb dX7_seekRests_58 (lv_at hl 1 rfl) ?_
            refine lv_iload hx hb dX7_seekRests_60 (lv_at hl 0 rfl) ?_
            have hFc : ∀ q, va_A [] _ q → A q := fun q h => hA q (Nat.le_trans hS.1 (va_nilA h))
            refine va_calli (va_runS (As := [.int p0, .int 1, .int 0]) (rest := [.int x_3120]) ⟨hx, hb, hml, hown, hts⟩ (tX7_speaksOf l dC dI _ p0 1 0 ) (va_cwS 3 hts (wd_S wd_1297 wd_1298 wd_5 (wd_c wd_1299)) rfl rfl rfl (by decide +kernel) ⟨Nat.le_of_ble_eq_true rfl, Nat.le_of_ble_eq_true rfl⟩) ⟨Pw.fb, fun U hU hW => Pn.to hK hE hS hA hU hW⟩ rfl rfl hl.1 rfl (lv_room (Nat.le_of_ble_eq_true rfl)) dX7_seekRests_62 ⟨Nat.le_of_ble_eq_true rfl, Nat.le_of_ble_eq_true rfl⟩) hS (fun q _ h => hFc q h) hFc (fun r u t H locs ht hvm hw hB hz1 hk1 hS => ?_)
            obtain ⟨hP, hD, hK⟩ := Bw.same ht hvm hP hD hK hk1 hFc
            clear hz1 hk1 hvm ht hB
            have hq9 := hw.2
            have hw := hw.1
            obtain ⟨x_3121, rfl⟩ : ∃ z, z = r := ⟨_, rfl⟩
            have hq_x_3121 := hq9
            have hG := hG.trans (lt_eq hq_x_3121.symm)
            have rg_x_3121 := fb_rng x_3121
            refine lv_icmp_gt (tgt := 119) hx hb dX7_seekRests_65 (by decide) (fun c_3122 => ?_) (fun c_3122 => ?_)
            · skip
              have hG := hG.trans (if_pos c_3122)
              have gc_3122 := ti_lt c_3122 rfl rfl
              obtain ⟨x_3123, ex_3123⟩ : ∃ z : Int32, z = z_3071 + Int32.ofInt 1 := ⟨_, rfl⟩
              have hG := hG.trans (lt_eq ex_3123)
              have vx_3123 : x_3123.toInt = z_3071.toInt + 1 := by have q := ti_add (y := 1) ex_3123 rfl kc_1 (by omega) (by omega); omega
              refine lv_iinc (v := x_3123) (lv' := [(3, .int x_3123), (5, .int 0), (4, .int 1), (2, .int z_3072), (0, .ref oM), (1, .int p0)]) hx hb dX7_seekRests_119 hl (k := 2) rfl ex_3123.symm (by decide) rfl (fun ls hl => ?_)
              refine lv_goto (tgt := 10) hx hb dX7_seekRests_122 (by decide) ?_
              exact ih_n_3074 x_3123 z_3072 z_3073 _ _ _  (by first | omega | decide | assumption) (by omega) hG (hP.sub [0] rfl) (hD.sub [0] (by decide) rfl) hS (lv_sub hl [0, 3, 4, 5] rfl)
            · skip
              have hG := hG.trans (if_neg c_3122)
              have gc_3122 := ti_nlt c_3122 rfl rfl
              refine lv_iload_n hx hb dX7_seekRests_68 rfl (lv_at hl 5 rfl) ?_
              refine lv_iload hx hb dX7_seekRests_69 (lv_at hl 0 rfl) ?_
              refine lv_if_ne (tgt := 78) hx hb dX7_seekRests_71 (by decide) (fun c => absurd c (by decide)) (fun _ => ?_)
              refine lv_iconst (v := 1) hx hb dX7_seekRests_74 (by decide) ?_
              refine lv_goto (tgt := 79) hx hb dX7_seekRests_75 (by decide) ?_
              refine lv_iload hx hb dX7_seekRests_79 (lv_at hl 1 rfl) ?_
              have hFc : ∀ q, va_A [] _ q → A q := fun q h => hA q (Nat.le_trans hS.1 (va_nilA h))
              refine va_calli (va_runS (As := [.int p0, .int 1, .int 1]) (rest := []) ⟨hx, hb, hml, hown, hts⟩ (tX7_speaksOf l dC dI _ p0 1 1 ) (va_cwS 3 hts (wd_S wd_1297 wd_1298 wd_5 (wd_c wd_1299)) rfl rfl rfl (by decide +kernel) ⟨Nat.le_of_ble_eq_true rfl, Nat.le_of_ble_eq_true rfl⟩) ⟨Pw.fb, fun U hU hW => Pn.to hK hE hS hA hU hW⟩ rfl rfl hl.1 rfl (lv_room (Nat.le_of_ble_eq_true rfl)) dX7_seekRests_81 ⟨Nat.le_of_ble_eq_true rfl, Nat.le_of_ble_eq_true rfl⟩) hS (fun q _ h => hFc q h) hFc (fun r u t H locs ht hvm hw hB hz1 hk1 hS => ?_)
              obtain ⟨hP, hD, hK⟩ := Bw.same ht hvm hP hD hK hk1 hFc
              clear hz1 hk1 hvm ht hB
              have hq9 := hw.2
              have hw := hw.1
              obtain ⟨x_3125, rfl⟩ : ∃ z, z = r := ⟨_, rfl⟩
              have hq_x_3125 := hq9
              have hG := hG.trans (lt_eq hq_x_3125.symm)
              have rg_x_3125 := fb_rng x_3125
              refine lv_iload_n hx hb dX7_seekRests_84 rfl (lv_at hl 5 rfl) ?_
              refine lv_iload hx hb dX7_seekRests_85 (lv_at hl 0 rfl) ?_
              refine lv_iload hx hb dX7_seekRests_87 (lv_at hl 1 rfl) ?_
              have hFc : ∀ q, va_A [] _ q → A q := fun q h => hA q (Nat.le_trans hS.1 (va_nilA h))
              refine va_calli (va_runS (As := [.int p0, .int 0, .int 1]) (rest := [.int x_3125]) ⟨hx, hb, hml, hown, hts⟩ (tX7_speaksOf l dC dI _ p0 0 1 ) (va_cwS 3 hts (wd_S wd_1297 wd_1298 wd_5 (wd_c wd_1299)) rfl rfl rfl (by decide +kernel) ⟨Nat.le_of_ble_eq_true rfl, Nat.le_of_ble_eq_true rfl⟩) ⟨Pw.fb, fun U hU hW => Pn.to hK hE hS hA hU hW⟩ rfl rfl hl.1 rfl (lv_room (Nat.le_of_ble_eq_true rfl)) dX7_seekRests_89 ⟨Nat.le_of_ble_eq_true rfl, Nat.le_of_ble_eq_true rfl⟩) hS (fun q _ h => hFc q h) hFc (fun r u t H locs ht hvm hw hB hz1 hk1 hS => ?_)
              obtain ⟨hP, hD, hK⟩ := Bw.same ht hvm hP hD hK hk1 hFc
              clear hz1 hk1 hvm ht hB
              have hq9 := hw.2
              have hw := hw.1
              obtain ⟨x_3126, rfl⟩ : ∃ z, z = r := ⟨_, rfl⟩
              have hq_x_3126 := hq9
              have hG := hG.trans (lt_eq hq_x_3126.symm)
              have rg_x_3126 := fb_rng x_3126
              refine lv_icmp_le (tgt := 98) hx hb dX7_seekRests_92 (by decide) (fun c_3127 => ?_) (fun c_3127 => ?_)
              · skip
                have hG := hG.trans (if_pos c_3127)
                have gc_3127 := ti_le c_3127 rfl rfl
                refine lv_iload_n hx hb dX7_seekRests_98 rfl (lv_at hl 3 rfl) ?_
                refine lv_if_ne (tgt := 116) hx hb dX7_seekRests_99 (by decide) (fun c_3128 => ?_) (fun c_3128 => ?_)
                · skip
                  have hG := hG.trans (if_neg c_3128)
                  have gc_3128 := ti_ne c_3128 rfl kc_0
                  obtain ⟨x_3129, ex_3129⟩ : ∃ z : Int32, z = z_3072 + Int32.ofInt 1 := ⟨_, rfl⟩
                  have hG := hG.trans (lt_eq ex_3129)
                  have rg_x_3129 := fb_rng x_3129
                  refine lv_iinc (v := x_3129) (lv' := [(2, .int x_3129), (5, .int 0), (4, .int 1), (3, .int z_3071), (0, .ref oM), (1, .int p0)]) hx hb dX7_seekRests_116 hl (k := 3) rfl ex_3129.symm (by decide) rfl (fun ls hl => ?_)
                  obtain ⟨x_3130, ex_3130⟩ : ∃ z : Int32, z = z_3071 + Int32.ofInt 1 := ⟨_, rfl⟩
                  have hG := hG.trans (lt_eq ex_3130)
                  have vx_3130 : x_3130.toInt = z_3071.toInt + 1 := by have q := ti_add (y := 1) ex_3130 rfl kc_1 (by omega) (by omega); omega
                  refine lv_iinc (v := x_3130) (lv' := [(3, .int x_3130), (2, .int x_3129), (5, .int 0), (4, .int 1), (0, .ref oM), (1, .int p0)]) hx hb dX7_seekRests_119 hl (k := 3) rfl ex_3130.symm (by decide) rfl (fun ls hl => ?_)
                  refine lv_goto (tgt := 10) hx hb dX7_seekRests_122 (by decide) ?_
                  exact ih_n_3074 x_3130 x_3129 z_3073 _ _ _  (by first | omega | decide | assumption) (by omega) hG (hP.sub [0] rfl) (hD.sub [0] (by decide) rfl) hS (lv_sub hl [0, 1, 4, 5] rfl)
                · skip
                  have hG := hG.trans (if_pos c_3128)
                  have gc_3128 := ti_eq c_3128 rfl kc_0
                  refine lv_aload_n hx hb dX7_seekRests_102 rfl (lv_at hl 4 rfl) ?_
                  refine lv_bipush (v := 10) hx hb dX7_seekRests_103 (by decide) ?_
                  refine lv_iload_n hx hb dX7_seekRests_105 rfl (lv_at hl 2 rfl) ?_
                  refine lv_iconst (v := 2) hx hb dX7_seekRests_106 (by decide) ?_
                  refine lv_idiv hx hb dX7_seekRests_107 (by decide) ?_
                  refine lv_topi (fun x_3131 ex_3131 => ?_)
                  have hG := hG.trans (lt_eq ex_3131)
                  have rg_x_3131 := fb_rng x_3131
                  have qx_3131 := ti_div ex_3131 rfl kc_2 (by omega) (by omega)
                  have Qx_3131 := ti_divE ex_3131 rfl kc_2 (by omega) (by omega)
                  refine lv_imul hx hb dX7_seekRests_108 ?_
                  refine lv_topi (fun x_3132 ex_3132 => ?_)
                  have hG := hG.trans (lt_eq ex_3132)
                  have vx_3132 : x_3132.toInt = 10 * x_3131.toInt := by have q := ti_mul ex_3132 kc_10 rfl (by omega) (by omega); omega
                  refine lv_iload_n hx hb dX7_seekRests_109 rfl (lv_at hl 2 rfl) ?_
                  refine lv_iconst (v := 2) hx hb dX7_seekRests_110 (by decide) ?_
                  refine lv_irem hx hb dX7_seekRests_111 (by decide) ?_
                  refine lv_topi (fun x_3133 ex_3133 => ?_)
                  have hG := hG.trans (lt_eq ex_3133)
                  have rg_x_3133 := fb_rng x_3133
                  have qx_3133 := ti_rem ex_3133 rfl kc_2 (by omega) (by omega)
                  have Qx_3133 := ti_remE ex_3133 rfl kc_2 (by omega) (by omega)
                  refine lv_iadd hx hb dX7_seekRests_112 ?_
                  refine lv_topi (fun x_3134 ex_3134 => ?_)
                  have hG := hG.trans (lt_eq ex_3134)
                  have vx_3134 : x_3134.toInt = 10 * x_3131.toInt + x_3133.toInt := by have q := ti_add ex_3134 vx_3132 rfl (by omega) (by omega); omega
                  refine va_put (D := (dC, dI)) (ci := 7) (v := .int x_3134) (ty := .int) (C := RX7) (T := TX7) (N := 48) hx hb hts inX7 tyX7 tyX7_ok nmX7 hown hK hP hD hS 0 rfl rfl 46 (by decide) (hts _ wd_1315) (fun _ h9 => h9) rfl (by decide +kernel) rfl rfl (Nat.le_of_ble_eq_true rfl) dX7_seekRests_113 (fun H locs hP hD hS => ?_)
                  obtain ⟨hP, hD⟩ := wl2 (ws' := [(oc7 oM iM_thrown rM_tape iM_taped iM_size iM_at iM_end iM_token iM_whole iM_nameSize iM_fault iM_place iM_trouble rM_letters iM_failed iM_hasCourt rM_r rM_fresh rM_told rM_read rM_st rM_undone rM_kept iM_undos iM_images rM_fresher iM_fresherSize iM_scale iM_night rM_heardRow rM_cutRow iM_breaths iM_cutMany iM_allBreaths rM_trial rM_words iM_fewestBreaths iM_orderMany iM_orderSum iM_leastOrder rM_often iM_setMany iM_someOf iM_allOf iM_allWeight iM_enoughWeight iM_worthSum x_3134 iM_leastDrawn)]) hP hD rfl
                  obtain ⟨x_3135, ex_3135⟩ : ∃ z : Int32, z = z_3072 + Int32.ofInt 1 := ⟨_, rfl⟩
                  have hG := hG.trans (lt_eq ex_3135)
                  have vx_3135 : x_3135.toInt = z_3072.toInt + 1 := by have q := ti_add (y := 1) ex_3135 rfl kc_1 (by omega) (by omega); omega
                  refine lv_iinc (v := x_3135) (lv' := [(2, .int x_3135), (5, .int 0), (4, .int 1), (3, .int z_3071), (0, .ref oM), (1, .int p0)]) hx hb dX7_seekRests_116 hl (k := 3) rfl ex_3135.symm (by decide) rfl (fun ls hl => ?_)
                  obtain ⟨x_3136, ex_3136⟩ : ∃ z : Int32, z = z_3071 + Int32.ofInt 1 := ⟨_, rfl⟩
                  have hG := hG.trans (lt_eq ex_3136)
                  have vx_3136 : x_3136.toInt = z_3071.toInt + 1 := by have q := ti_add (y := 1) ex_3136 rfl kc_1 (by omega) (by omega); omega
                  refine lv_iinc (v := x_3136) (lv' := [(3, .int x_3136), (2, .int x_3135), (5, .int 0), (4, .int 1), (0, .ref oM), (1, .int p0)]) hx hb dX7_seekRests_119 hl (k := 3) rfl ex_3136.symm (by decide) rfl (fun ls hl => ?_)
                  refine lv_goto (tgt := 10) hx hb dX7_seekRests_122 (by decide) ?_
                  exact ih_n_3074 x_3136 x_3135 x_3134 _ _ _  (by first | omega | decide | assumption) (by omega) hG (hP.sub [0] rfl) (hD.sub [0] (by decide) rfl) hS (lv_sub hl [0, 1, 4, 5] rfl)
              · skip
                have hG := hG.trans (if_neg c_3127)
                have gc_3127 := ti_nle c_3127 rfl rfl
                refine lv_goto (tgt := 119) hx hb dX7_seekRests_95 (by decide) ?_
                obtain ⟨x_3137, ex_3137⟩ : ∃ z : Int32, z = z_3071 + Int32.ofInt 1 := ⟨_, rfl⟩
                have hG := hG.trans (lt_eq ex_3137)
                have vx_3137 : x_3137.toInt = z_3071.toInt + 1 := by have q := ti_add (y := 1) ex_3137 rfl kc_1 (by omega) (by omega); omega
                refine lv_iinc (v := x_3137) (lv' := [(3, .int x_3137), (5, .int 0), (4, .int 1), (2, .int z_3072), (0, .ref oM), (1, .int p0)]) hx hb dX7_seekRests_119 hl (k := 2) rfl ex_3137.symm (by decide) rfl (fun ls hl => ?_)
                refine lv_goto (tgt := 10) hx hb dX7_seekRests_122 (by decide) ?_
                exact ih_n_3074 x_3137 z_3072 z_3073 _ _ _  (by first | omega | decide | assumption) (by omega) hG (hP.sub [0] rfl) (hD.sub [0] (by decide) rfl) hS (lv_sub hl [0, 3, 4, 5] rfl)
          · skip
            have hG := hG.trans (if_pos c_3118)
            have gc_3118 := ti_eq c_3118 rfl kc_1
            refine lv_iconst (v := 1) hx hb dX7_seekRests_34 (by decide) ?_
            refine lv_goto (tgt := 39) hx hb dX7_seekRests_35 (by decide) ?_
            refine lv_istore (lv' := [(5, .int 1), (4, .int 1), (3, .int z_3071), (2, .int z_3072), (0, .ref oM), (1, .int p0)]) hx hb dX7_seekRests_39 hl (by decide) rfl (fun ls hl => ?_)
            refine lv_iload_n hx hb dX7_seekRests_41 rfl (lv_at hl 5 rfl) ?_
            refine lv_iload hx hb dX7_seekRests_42 (lv_at hl 1 rfl) ?_
            refine lv_if_ne (tgt := 51) hx hb dX7_seekRests_44 (by decide) (fun _ => ?_) (fun c => absurd c (by decide))
            refine lv_iconst (v := 0) hx hb dX7_seekRests_51 (by decide) ?_
            refine lv_iload hx hb dX7_seekRests_52 (lv_at hl 0 rfl) ?_
            have hFc : ∀ q, va_A [] _ q → A q := fun q h => hA q (Nat.le_trans hS.1 (va_nilA h))
            refine va_calli (va_runS (As := [.int p0, .int 0, .int 1]) (rest := []) ⟨hx, hb, hml, hown, hts⟩ (tX7_speaksOf l dC dI _ p0 0 1 ) (va_cwS 3 hts (wd_S wd_1297 wd_1298 wd_5 (wd_c wd_1299)) rfl rfl rfl (by decide +kernel) ⟨Nat.le_of_ble_eq_true rfl, Nat.le_of_ble_eq_true rfl⟩) ⟨Pw.fb, fun U hU hW => Pn.to hK hE hS hA hU hW⟩ rfl rfl hl.1 rfl (lv_room (Nat.le_of_ble_eq_true rfl)) dX7_seekRests_54 ⟨Nat.le_of_ble_eq_true rfl, Nat.le_of_ble_eq_true rfl⟩) hS (fun q _ h => hFc q h) hFc (fun r u t H locs ht hvm hw hB hz1 hk1 hS => ?_)
            obtain ⟨hP, hD, hK⟩ := Bw.same ht hvm hP hD hK hk1 hFc
            clear hz1 hk1 hvm ht hB
            have hq9 := hw.2
            have hw := hw.1
            obtain ⟨x_3139, rfl⟩ : ∃ z, z = r := ⟨_, rfl⟩
            have hq_x_3139 := hq9
            have hG := hG.trans (lt_eq hq_x_3139.symm)
            have rg_x_3139 := fb_rng x_3139
            refine lv_iload_n hx hb dX7_seekRests_57 rfl (lv_at hl 5 rfl) ?_
            refine lv_iload hx hb dX7_seekRests_58 (lv_at hl 1 rfl) ?_
            refine lv_iload hx hb dX7_seekRests_60 (lv_at hl 0 rfl) ?_
            have hFc : ∀ q, va_A [] _ q → A q := fun q h => hA q (Nat.le_trans hS.1 (va_nilA h))
            refine va_calli (va_runS (As := [.int p0, .int 1, .int 1]) (rest := [.int x_3139]) ⟨hx, hb, hml, hown, hts⟩ (tX7_speaksOf l dC dI _ p0 1 1 ) (va_cwS 3 hts (wd_S wd_1297 wd_1298 wd_5 (wd_c wd_1299)) rfl rfl rfl (by decide +kernel) ⟨Nat.le_of_ble_eq_true rfl, Nat.le_of_ble_eq_true rfl⟩) ⟨Pw.fb, fun U hU hW => Pn.to hK hE hS hA hU hW⟩ rfl rfl hl.1 rfl (lv_room (Nat.le_of_ble_eq_true rfl)) dX7_seekRests_62 ⟨Nat.le_of_ble_eq_true rfl, Nat.le_of_ble_eq_true rfl⟩) hS (fun q _ h => hFc q h) hFc (fun r u t H locs ht hvm hw hB hz1 hk1 hS => ?_)
            obtain ⟨hP, hD, hK⟩ := Bw.same ht hvm hP hD hK hk1 hFc
            clear hz1 hk1 hvm ht hB
            have hq9 := hw.2
            have hw := hw.1
            obtain ⟨x_3140, rfl⟩ : ∃ z, z = r := ⟨_, rfl⟩
            have hq_x_3140 := hq9
            have hG := hG.trans (lt_eq hq_x_3140.symm)
            have rg_x_3140 := fb_rng x_3140
            refine lv_icmp_gt (tgt := 119) hx hb dX7_seekRests_65 (by decide) (fun c_3141 => ?_) (fun c_3141 => ?_)
            · skip
              have hG := hG.trans (if_pos c_3141)
              have gc_3141 := ti_lt c_3141 rfl rfl
              obtain ⟨x_3142, ex_3142⟩ : ∃ z : Int32, z = z_3071 + Int32.ofInt 1 := ⟨_, rfl⟩
              have hG := hG.trans (lt_eq ex_3142)
              have vx_3142 : x_3142.toInt = z_3071.toInt + 1 := by have q := ti_add (y := 1) ex_3142 rfl kc_1 (by omega) (by omega); omega
              refine lv_iinc (v := x_3142) (lv' := [(3, .int x_3142), (5, .int 1), (4, .int 1), (2, .int z_3072), (0, .ref oM), (1, .int p0)]) hx hb dX7_seekRests_119 hl (k := 2) rfl ex_3142.symm (by decide) rfl (fun ls hl => ?_)
              refine lv_goto (tgt := 10) hx hb dX7_seekRests_122 (by decide) ?_
              exact ih_n_3074 x_3142 z_3072 z_3073 _ _ _  (by first | omega | decide | assumption) (by omega) hG (hP.sub [0] rfl) (hD.sub [0] (by decide) rfl) hS (lv_sub hl [0, 3, 4, 5] rfl)
            · skip
              have hG := hG.trans (if_neg c_3141)
              have gc_3141 := ti_nlt c_3141 rfl rfl
              refine lv_iload_n hx hb dX7_seekRests_68 rfl (lv_at hl 5 rfl) ?_
              refine lv_iload hx hb dX7_seekRests_69 (lv_at hl 0 rfl) ?_
              refine lv_if_ne (tgt := 78) hx hb dX7_seekRests_71 (by decide) (fun _ => ?_) (fun c => absurd c (by decide))
              refine lv_iconst (v := 0) hx hb dX7_seekRests_78 (by decide) ?_
              refine lv_iload hx hb dX7_seekRests_79 (lv_at hl 1 rfl) ?_
              have hFc : ∀ q, va_A [] _ q → A q := fun q h => hA q (Nat.le_trans hS.1 (va_nilA h))
              refine va_calli (va_runS (As := [.int p0, .int 0, .int 1]) (rest := []) ⟨hx, hb, hml, hown, hts⟩ (tX7_speaksOf l dC dI _ p0 0 1 ) (va_cwS 3 hts (wd_S wd_1297 wd_1298 wd_5 (wd_c wd_1299)) rfl rfl rfl (by decide +kernel) ⟨Nat.le_of_ble_eq_true rfl, Nat.le_of_ble_eq_true rfl⟩) ⟨Pw.fb, fun U hU hW => Pn.to hK hE hS hA hU hW⟩ rfl rfl hl.1 rfl (lv_room (Nat.le_of_ble_eq_true rfl)) dX7_seekRests_81 ⟨Nat.le_of_ble_eq_true rfl, Nat.le_of_ble_eq_true rfl⟩) hS (fun q _ h => hFc q h) hFc (fun r u t H locs ht hvm hw hB hz1 hk1 hS => ?_)
              obtain ⟨hP, hD, hK⟩ := Bw.same ht hvm hP hD hK hk1 hFc
              clear hz1 hk1 hvm ht hB
              have hq9 := hw.2
              have hw := hw.1
              obtain ⟨x_3144, rfl⟩ : ∃ z, z = r := ⟨_, rfl⟩
              have hq_x_3144 := hq9
              have hG := hG.trans (lt_eq hq_x_3144.symm)
              have rg_x_3144 := fb_rng x_3144
              refine lv_iload_n hx hb dX7_seekRests_84 rfl (lv_at hl 5 rfl) ?_
              refine lv_iload hx hb dX7_seekRests_85 (lv_at hl 0 rfl) ?_
              refine lv_iload hx hb dX7_seekRests_87 (lv_at hl 1 rfl) ?_
              have hFc : ∀ q, va_A [] _ q → A q := fun q h => hA q (Nat.le_trans hS.1 (va_nilA h))
              refine va_calli (va_runS (As := [.int p0, .int 1, .int 1]) (rest := [.int x_3144]) ⟨hx, hb, hml, hown, hts⟩ (tX7_speaksOf l dC dI _ p0 1 1 ) (va_cwS 3 hts (wd_S wd_1297 wd_1298 wd_5 (wd_c wd_1299)) rfl rfl rfl (by decide +kernel) ⟨Nat.le_of_ble_eq_true rfl, Nat.le_of_ble_eq_true rfl⟩) ⟨Pw.fb, fun U hU hW => Pn.to hK hE hS hA hU hW⟩ rfl rfl hl.1 rfl (lv_room (Nat.le_of_ble_eq_true rfl)) dX7_seekRests_89 ⟨Nat.le_of_ble_eq_true rfl, Nat.le_of_ble_eq_true rfl⟩) hS (fun q _ h => hFc q h) hFc (fun r u t H locs ht hvm hw hB hz1 hk1 hS => ?_)
              obtain ⟨hP, hD, hK⟩ := Bw.same ht hvm hP hD hK hk1 hFc
              clear hz1 hk1 hvm ht hB
              have hq9 := hw.2
              have hw := hw.1
              obtain ⟨x_3145, rfl⟩ : ∃ z, z = r := ⟨_, rfl⟩
              have hq_x_3145 := hq9
              have hG := hG.trans (lt_eq hq_x_3145.symm)
              have rg_x_3145 := fb_rng x_3145
              refine lv_icmp_le (tgt := 98) hx hb dX7_seekRests_92 (by decide) (fun c_3146 => ?_) (fun c_3146 => ?_)
              · skip
                have hG := hG.trans (if_pos c_3146)
                have gc_3146 := ti_le c_3146 rfl rfl
                refine lv_iload_n hx hb dX7_seekRests_98 rfl (lv_at hl 3 rfl) ?_
                refine lv_if_ne (tgt := 116) hx hb dX7_seekRests_99 (by decide) (fun c_3147 => ?_) (fun c_3147 => ?_)
                · skip
                  have hG := hG.trans (if_neg c_3147)
                  have gc_3147 := ti_ne c_3147 rfl kc_0
                  obtain ⟨x_3148, ex_3148⟩ : ∃ z : Int32, z = z_3072 + Int32.ofInt 1 := ⟨_, rfl⟩
                  have hG := hG.trans (lt_eq ex_3148)
                  have rg_x_3148 := fb_rng x_3148
                  refine lv_iinc (v := x_3148) (lv' := [(2, .int x_3148), (5, .int 1), (4, .int 1), (3, .int z_3071), (0, .ref oM), (1, .int p0)]) hx hb dX7_seekRests_116 hl (k := 3) rfl ex_3148.symm (by decide) rfl (fun ls hl => ?_)
                  obtain ⟨x_3149, ex_3149⟩ : ∃ z : Int32, z = z_3071 + Int32.ofInt 1 := ⟨_, rfl⟩
                  have hG := hG.trans (lt_eq ex_3149)
                  have vx_3149 : x_3149.toInt = z_3071.toInt + 1 := by have q := ti_add (y := 1) ex_3149 rfl kc_1 (by omega) (by omega); omega
                  refine lv_iinc (v := x_3149) (lv' := [(3, .int x_3149), (2, .int x_3148), (5, .int 1), (4, .int 1), (0, .ref oM), (1, .int p0)]) hx hb dX7_seekRests_119 hl (k := 3) rfl ex_3149.symm (by decide) rfl (fun ls hl => ?_)
                  refine lv_goto (tgt := 10) hx hb dX7_seekRests_122 (by decide) ?_
                  exact ih_n_3074 x_3149 x_3148 z_3073 _ _ _  (by first | omega | decide | assumption) (by omega) hG (hP.sub [0] rfl) (hD.sub [0] (by decide) rfl) hS (lv_sub hl [0, 1, 4, 5] rfl)
                · skip
                  have hG := hG.trans (if_pos c_3147)
                  have gc_3147 := ti_eq c_3147 rfl kc_0
                  refine lv_aload_n hx hb dX7_seekRests_102 rfl (lv_at hl 4 rfl) ?_
                  refine lv_bipush (v := 10) hx hb dX7_seekRests_103 (by decide) ?_
                  refine lv_iload_n hx hb dX7_seekRests_105 rfl (lv_at hl 2 rfl) ?_
                  refine lv_iconst (v := 2) hx hb dX7_seekRests_106 (by decide) ?_
                  refine lv_idiv hx hb dX7_seekRests_107 (by decide) ?_
                  refine lv_topi (fun x_3150 ex_3150 => ?_)
                  have hG := hG.trans (lt_eq ex_3150)
                  have rg_x_3150 := fb_rng x_3150
                  have qx_3150 := ti_div ex_3150 rfl kc_2 (by omega) (by omega)
                  have Qx_3150 := ti_divE ex_3150 rfl kc_2 (by omega) (by omega)
                  refine lv_imul hx hb dX7_seekRests_108 ?_
                  refine lv_topi (fun x_3151 ex_3151 => ?_)
                  have hG := hG.trans (lt_eq ex_3151)
                  have vx_3151 : x_3151.toInt = 10 * x_3150.toInt := by have q := ti_mul ex_3151 kc_10 rfl (by omega) (by omega); omega
                  refine lv_iload_n hx hb dX7_seekRests_109 rfl (lv_at hl 2 rfl) ?_
                  refine lv_iconst (v := 2) hx hb dX7_seekRests_110 (by decide) ?_
                  refine lv_irem hx hb dX7_seekRests_111 (by decide) ?_
                  refine lv_topi (fun x_3152 ex_3152 => ?_)
                  have hG := hG.trans (lt_eq ex_3152)
                  have rg_x_3152 := fb_rng x_3152
                  have qx_3152 := ti_rem ex_3152 rfl kc_2 (by omega) (by omega)
                  have Qx_3152 := ti_remE ex_3152 rfl kc_2 (by omega) (by omega)
                  refine lv_iadd hx hb dX7_seekRests_112 ?_
                  refine lv_topi (fun x_3153 ex_3153 => ?_)
                  have hG := hG.trans (lt_eq ex_3153)
                  have vx_3153 : x_3153.toInt = 10 * x_3150.toInt + x_3152.toInt := by have q := ti_add ex_3153 vx_3151 rfl (by omega) (by omega); omega
                  refine va_put (D := (dC, dI)) (ci := 7) (v := .int x_3153) (ty := .int) (C := RX7) (T := TX7) (N := 48) hx hb hts inX7 tyX7 tyX7_ok nmX7 hown hK hP hD hS 0 rfl rfl 46 (by decide) (hts _ wd_1315) (fun _ h9 => h9) rfl (by decide +kernel) rfl rfl (Nat.le_of_ble_eq_true rfl) dX7_seekRests_113 (fun H locs hP hD hS => ?_)
                  obtain ⟨hP, hD⟩ := wl2 (ws' := [(oc7 oM iM_thrown rM_tape iM_taped iM_size iM_at iM_end iM_token iM_whole iM_nameSize iM_fault iM_place iM_trouble rM_letters iM_failed iM_hasCourt rM_r rM_fresh rM_told rM_read rM_st rM_undone rM_kept iM_undos iM_images rM_fresher iM_fresherSize iM_scale iM_night rM_heardRow rM_cutRow iM_breaths iM_cutMany iM_allBreaths rM_trial rM_words iM_fewestBreaths iM_orderMany iM_orderSum iM_leastOrder rM_often iM_setMany iM_someOf iM_allOf iM_allWeight iM_enoughWeight iM_worthSum x_3153 iM_leastDrawn)]) hP hD rfl
                  obtain ⟨x_3154, ex_3154⟩ : ∃ z : Int32, z = z_3072 + Int32.ofInt 1 := ⟨_, rfl⟩
                  have hG := hG.trans (lt_eq ex_3154)
                  have vx_3154 : x_3154.toInt = z_3072.toInt + 1 := by have q := ti_add (y := 1) ex_3154 rfl kc_1 (by omega) (by omega); omega
                  refine lv_iinc (v := x_3154) (lv' := [(2, .int x_3154), (5, .int 1), (4, .int 1), (3, .int z_3071), (0, .ref oM), (1, .int p0)]) hx hb dX7_seekRests_116 hl (k := 3) rfl ex_3154.symm (by decide) rfl (fun ls hl => ?_)
                  obtain ⟨x_3155, ex_3155⟩ : ∃ z : Int32, z = z_3071 + Int32.ofInt 1 := ⟨_, rfl⟩
                  have hG := hG.trans (lt_eq ex_3155)
                  have vx_3155 : x_3155.toInt = z_3071.toInt + 1 := by have q := ti_add (y := 1) ex_3155 rfl kc_1 (by omega) (by omega); omega
                  refine lv_iinc (v := x_3155) (lv' := [(3, .int x_3155), (2, .int x_3154), (5, .int 1), (4, .int 1), (0, .ref oM), (1, .int p0)]) hx hb dX7_seekRests_119 hl (k := 3) rfl ex_3155.symm (by decide) rfl (fun ls hl => ?_)
                  refine lv_goto (tgt := 10) hx hb dX7_seekRests_122 (by decide) ?_
                  exact ih_n_3074 x_3155 x_3154 x_3153 _ _ _  (by first | omega | decide | assumption) (by omega) hG (hP.sub [0] rfl) (hD.sub [0] (by decide) rfl) hS (lv_sub hl [0, 1, 4, 5] rfl)
              · skip
                have hG := hG.trans (if_neg c_3146)
                have gc_3146 := ti_nle c_3146 rfl rfl
                refine lv_goto (tgt := 119) hx hb dX7_seekRests_95 (by decide) ?_
                obtain ⟨x_3156, ex_3156⟩ : ∃ z : Int32, z = z_3071 + Int32.ofInt 1 := ⟨_, rfl⟩
                have hG := hG.trans (lt_eq ex_3156)
                have vx_3156 : x_3156.toInt = z_3071.toInt + 1 := by have q := ti_add (y := 1) ex_3156 rfl kc_1 (by omega) (by omega); omega
                refine lv_iinc (v := x_3156) (lv' := [(3, .int x_3156), (5, .int 1), (4, .int 1), (2, .int z_3072), (0, .ref oM), (1, .int p0)]) hx hb dX7_seekRests_119 hl (k := 2) rfl ex_3156.symm (by decide) rfl (fun ls hl => ?_)
                refine lv_goto (tgt := 10) hx hb dX7_seekRests_122 (by decide) ?_
                exact ih_n_3074 x_3156 z_3072 z_3073 _ _ _  (by first | omega | decide | assumption) (by omega) hG (hP.sub [0] rfl) (hD.sub [0] (by decide) rfl) hS (lv_sub hl [0, 3, 4, 5] rfl)
  exact key_n_3074 (((2147483647 - (0 : Int32).toInt).toNat) + 1) 0 0 (-2) _ _ _  (by first | omega | decide | assumption | (have q0 := kc_0; have q1 := kc_1; omega)) (by omega) hG hP hD hS hl
set_option maxHeartbeats 4000000 in
set_option maxRecDepth 100000 in
theorem tX7_rests (l : Launch) (dC : Nat → ClassId) (dI : Nat → Nat → Nat) (sz : Nat) (oM : Nat) (iM_thrown : Int32) (rM_tape : Nat) (iM_taped : Int32) (iM_size : Int32) (iM_at : Int32) (iM_end : Int32) (iM_token : Int32) (iM_whole : Int32) (iM_nameSize : Int32) (iM_fault : Int32) (iM_place : Int32) (iM_trouble : Int32) (rM_letters : Nat) (iM_failed : Int32) (iM_hasCourt : Int32) (rM_r : Nat) (fM_r : Nat → Int32) (kM_r : ClassId) (rM_fresh : Nat) (rM_told : Nat) (rM_read : Nat) (rM_st : Nat) (rM_undone : Nat) (rM_kept : Nat) (iM_undos : Int32) (iM_images : Int32) (rM_fresher : Nat) (iM_fresherSize : Int32) (iM_scale : Int32) (iM_night : Int32) (rM_heardRow : Nat) (rM_cutRow : Nat) (iM_breaths : Int32) (iM_cutMany : Int32) (iM_allBreaths : Int32) (rM_trial : Nat) (rM_words : Nat) (iM_fewestBreaths : Int32) (iM_orderMany : Int32) (iM_orderSum : Int32) (iM_leastOrder : Int32) (rM_often : Nat) (iM_setMany : Int32) (iM_someOf : Int32) (iM_allOf : Int32) (iM_allWeight : Int64) (iM_enoughWeight : Int64) (iM_worthSum : Int64) (iM_firstRest : Int32) (iM_leastDrawn : Int32) (p0 : Int32) (b_iM_taped : 0 ≤ iM_taped.toInt ∧ iM_taped.toInt ≤ 900) (b_iM_size : 0 ≤ iM_size.toInt ∧ iM_size.toInt ≤ 900) (b_iM_end : 0 ≤ iM_end.toInt ∧ iM_end.toInt ≤ 900) (b_iM_failed : 0 ≤ iM_failed.toInt ∧ iM_failed.toInt ≤ 1) (b_iM_hasCourt : 0 ≤ iM_hasCourt.toInt ∧ iM_hasCourt.toInt ≤ 1) (b_iM_undos : 0 ≤ iM_undos.toInt ∧ iM_undos.toInt ≤ 16) (b_iM_images : 0 ≤ iM_images.toInt ∧ iM_images.toInt ≤ 3) (b_iM_scale : 1 ≤ iM_scale.toInt ∧ iM_scale.toInt ≤ 1296) (b_iM_breaths : 0 ≤ iM_breaths.toInt ∧ iM_breaths.toInt ≤ 399) (b_iM_cutMany : 0 ≤ iM_cutMany.toInt ∧ iM_cutMany.toInt ≤ 399) (r_R : ROk fM_r) (r_C : iM_hasCourt.toInt ≤ 0 ∨ (1 ≤ (fM_r 1).toInt ∧ 0 ≤ (fM_r 6).toInt ∧ (fM_r 6).toInt < (fM_r 1).toInt))  : Met l yX7_rests (Cond.code yX7_rests cX7_rests 3 (some .int) :: wG) ({ frames := 2, cells := 0, slots := 0, locals := 47 }) (va_Pc [.ref oM, .int p0] (Pw dC dI sz [(oc7 oM iM_thrown rM_tape iM_taped iM_size iM_at iM_end iM_token iM_whole iM_nameSize iM_fault iM_place iM_trouble rM_letters iM_failed iM_hasCourt rM_r rM_fresh rM_told rM_read rM_st rM_undone rM_kept iM_undos iM_images rM_fresher iM_fresherSize iM_scale iM_night rM_heardRow rM_cutRow iM_breaths iM_cutMany iM_allBreaths rM_trial rM_words iM_fewestBreaths iM_orderMany iM_orderSum iM_leastOrder rM_often iM_setMany iM_someOf iM_allOf iM_allWeight iM_enoughWeight iM_worthSum iM_firstRest iM_leastDrawn), (arI rM_r kM_r 287 fM_r)] [(kM_r, .int)])) (va_Qi (fun (r : Int32) (u : Nat) => (True ∧ True) ∧ r = Int32.ofNat u) (fun (u : Nat) (t : State) => ∃ (niM_thrown : Int32) (niM_trouble : Int32) (niM_firstRest : Int32), (PX7_rests iM_hasCourt iM_firstRest p0 = (Int32.ofNat u, niM_thrown, niM_trouble, niM_firstRest)) ∧ Bw dC dI (va_A [(oc7 oM iM_thrown rM_tape iM_taped iM_size iM_at iM_end iM_token iM_whole iM_nameSize iM_fault iM_place iM_trouble rM_letters iM_failed iM_hasCourt rM_r rM_fresh rM_told rM_read rM_st rM_undone rM_kept iM_undos iM_images rM_fresher iM_fresherSize iM_scale iM_night rM_heardRow rM_cutRow iM_breaths iM_cutMany iM_allBreaths rM_trial rM_words iM_fewestBreaths iM_orderMany iM_orderSum iM_leastOrder rM_often iM_setMany iM_someOf iM_allOf iM_allWeight iM_enoughWeight iM_worthSum iM_firstRest iM_leastDrawn), (arI rM_r kM_r 287 fM_r)] sz) [(oc7 oM niM_thrown rM_tape iM_taped iM_size iM_at iM_end iM_token iM_whole iM_nameSize iM_fault iM_place niM_trouble rM_letters iM_failed iM_hasCourt rM_r rM_fresh rM_told rM_read rM_st rM_undone rM_kept iM_undos iM_images rM_fresher iM_fresherSize iM_scale iM_night rM_heardRow rM_cutRow iM_breaths iM_cutMany iM_allBreaths rM_trial rM_words iM_fewestBreaths iM_orderMany iM_orderSum iM_leastOrder rM_often iM_setMany iM_someOf iM_allOf iM_allWeight iM_enoughWeight iM_worthSum niM_firstRest iM_leastDrawn), (arI rM_r kM_r 287 fM_r)] [(kM_r, .int)] t) (va_A [(oc7 oM iM_thrown rM_tape iM_taped iM_size iM_at iM_end iM_token iM_whole iM_nameSize iM_fault iM_place iM_trouble rM_letters iM_failed iM_hasCourt rM_r rM_fresh rM_told rM_read rM_st rM_undone rM_kept iM_undos iM_images rM_fresher iM_fresherSize iM_scale iM_night rM_heardRow rM_cutRow iM_breaths iM_cutMany iM_allBreaths rM_trial rM_words iM_fewestBreaths iM_orderMany iM_orderSum iM_leastOrder rM_often iM_setMany iM_someOf iM_allOf iM_allWeight iM_enoughWeight iM_worthSum iM_firstRest iM_leastDrawn), (arI rM_r kM_r 287 fM_r)] sz)) 0 0 (va_A [(oc7 oM iM_thrown rM_tape iM_taped iM_size iM_at iM_end iM_token iM_whole iM_nameSize iM_fault iM_place iM_trouble rM_letters iM_failed iM_hasCourt rM_r rM_fresh rM_told rM_read rM_st rM_undone rM_kept iM_undos iM_images rM_fresher iM_fresherSize iM_scale iM_night rM_heardRow rM_cutRow iM_breaths iM_cutMany iM_allBreaths rM_trial rM_words iM_fewestBreaths iM_orderMany iM_orderSum iM_leastOrder rM_often iM_setMany iM_someOf iM_allOf iM_allWeight iM_enoughWeight iM_worthSum iM_firstRest iM_leastDrawn), (arI rM_r kM_r 287 fM_r)] sz) := by
  refine Met.ofW (cc := cX7_rests) (maxL := 3) (ret := (some .int)) (by decide) rfl ?_
  intro p e s m args below meth c s₁ B hml hv
  obtain ⟨rfl, hsz, hP, hK, hD0, hE⟩ := hv
  have hx := B.exec
  have hb := B.bytes
  have hr := B.returns
  have hts : ∀ w ∈ wG, w.before ([.ref oM, .int p0] : List Value).toArray s = true := fun w h => atoms_spec (ws := Cond.code yX7_rests cX7_rests 3 (some .int) :: wG) B.pre w (List.mem_cons_of_mem _ h)
  have hown : s.vm.findClass RX7 = some m.cls := findClass_of_methodNamed B.named
  have hlocks := B.notSynchronized
  subst hsz
  have hD := hD0.self (sz := s.heap.size)
  generalize hAe : va_A [(oc7 oM iM_thrown rM_tape iM_taped iM_size iM_at iM_end iM_token iM_whole iM_nameSize iM_fault iM_place iM_trouble rM_letters iM_failed iM_hasCourt rM_r rM_fresh rM_told rM_read rM_st rM_undone rM_kept iM_undos iM_images rM_fresher iM_fresherSize iM_scale iM_night rM_heardRow rM_cutRow iM_breaths iM_cutMany iM_allBreaths rM_trial rM_words iM_fewestBreaths iM_orderMany iM_orderSum iM_leastOrder rM_often iM_setMany iM_someOf iM_allOf iM_allWeight iM_enoughWeight iM_worthSum iM_firstRest iM_leastDrawn), (arI rM_r kM_r 287 fM_r)] s.heap.size = A at hD hE ⊢
  have hA : ∀ q : Nat, s.heap.size ≤ q → A q := fun q h => by rw [← hAe]; exact Or.inr h
  have hS : va_S A s.heap s.heap [] := va_S.rf
  have hl := lv_entry ([.ref oM, .int p0]) (n := 3) (Nat.le_of_ble_eq_true rfl)
  rw [lg_entry_eq]
  generalize (lg_sl ([.ref oM, .int p0]) ++ List.replicate (3 - (lg_sl ([.ref oM, .int p0])).length) Slot.unset).toArray = ls at hl ⊢
  have hl : lv_has ls 3 [(0, .ref oM), (1, .int p0)] := hl
  have hG := PX7_rests_eq iM_hasCourt iM_firstRest p0
  have s_slips := r_R.slips
  have s_nodes := r_R.nodes
  have s_uns := r_R.uns
  refine lv_aload_n hx hb dX7_rests_0 rfl (lv_at hl 0 rfl) ?_
  have hFc := va_free (wc := [(oc7 oM iM_thrown rM_tape iM_taped iM_size iM_at iM_end iM_token iM_whole iM_nameSize iM_fault iM_place iM_trouble rM_letters iM_failed iM_hasCourt rM_r rM_fresh rM_told rM_read rM_st rM_undone rM_kept iM_undos iM_images rM_fresher iM_fresherSize iM_scale iM_night rM_heardRow rM_cutRow iM_breaths iM_cutMany iM_allBreaths rM_trial rM_words iM_fewestBreaths iM_orderMany iM_orderSum iM_leastOrder rM_often iM_setMany iM_someOf iM_allOf iM_allWeight iM_enoughWeight iM_worthSum iM_firstRest iM_leastDrawn)]) hD hS hA [0] rfl
  refine va_callv (va_runV (As := []) (rest := []) ⟨hx, hb, hml, hown, hts⟩ (tX7_good l dC dI _ oM iM_thrown rM_tape iM_taped iM_size iM_at iM_end iM_token iM_whole iM_nameSize iM_fault iM_place iM_trouble rM_letters iM_failed iM_hasCourt rM_r rM_fresh rM_told rM_read rM_st rM_undone rM_kept iM_undos iM_images rM_fresher iM_fresherSize iM_scale iM_night rM_heardRow rM_cutRow iM_breaths iM_cutMany iM_allBreaths rM_trial rM_words iM_fewestBreaths iM_orderMany iM_orderSum iM_leastOrder rM_often iM_setMany iM_someOf iM_allOf iM_allWeight iM_enoughWeight iM_worthSum iM_firstRest iM_leastDrawn (by first | omega | decide) (by first | omega | decide) (by first | omega | decide) (by first | omega | decide) (by first | omega | decide) (by first | omega | decide) (by first | omega | decide) (by first | omega | decide) (by first | omega | decide) (by first | omega | decide)) (cwV 0 hts (wd_V wd_388 wd_389 wd_390 wd_5 (wd_c wd_391)) rfl rfl rfl (by decide +kernel) ⟨Nat.le_of_ble_eq_true rfl, Nat.le_of_ble_eq_true rfl⟩) ⟨Pw.fb, va_recv hK hP (ci := 7) (q0 := 0) rfl rfl, fun U hU hW => Pw.to (hP.sub [0] rfl) (hD.sub [0] (by decide) rfl) (hK.sub [] rfl) hE hS hFc hU hW⟩ rfl rfl hl.1 rfl (lv_room (Nat.le_of_ble_eq_true rfl)) dX7_rests_1 ⟨Nat.le_of_ble_eq_true rfl, Nat.le_of_ble_eq_true rfl⟩) hS (fun q _ h => hFc q h) hFc (fun u t H locs ht hvm hw hB hz1 hk1 hS => ?_)
  obtain ⟨x_3170, x_3171, b_x_3170, b_x_3171, e_x_3170_0, hB⟩ := hB
  obtain ⟨hP, hD, hK⟩ := Bw.go (ws' := [(arI rM_r kM_r 287 fM_r), (oc7 oM x_3170 rM_tape iM_taped iM_size iM_at iM_end iM_token iM_whole iM_nameSize iM_fault iM_place x_3171 rM_letters iM_failed iM_hasCourt rM_r rM_fresh rM_told rM_read rM_st rM_undone rM_kept iM_undos iM_images rM_fresher iM_fresherSize iM_scale iM_night rM_heardRow rM_cutRow iM_breaths iM_cutMany iM_allBreaths rM_trial rM_words iM_fewestBreaths iM_orderMany iM_orderSum iM_leastOrder rM_often iM_setMany iM_someOf iM_allOf iM_allWeight iM_enoughWeight iM_worthSum iM_firstRest iM_leastDrawn)]) (tys' := [(kM_r, .int)]) hB rfl ht hvm hP hD hK [0] [1] rfl (by decide) (by decide) [0] hk1 hFc rfl rfl rfl
  clear hz1 hk1 hvm ht hB
  have hG := hG.trans (un2_eq e_x_3170_0)
  refine lv_aload_n hx hb dX7_rests_4 rfl (lv_at hl 0 rfl) ?_
  refine lv_iload_n hx hb dX7_rests_5 rfl (lv_at hl 1 rfl) ?_
  refine lv_iconst (v := 0) hx hb dX7_rests_6 (by decide) ?_
  refine lv_bipush (v := 9) hx hb dX7_rests_7 (by decide) ?_
  have hFc : ∀ q, va_A [] _ q → A q := fun q h => hA q (Nat.le_trans hS.1 (va_nilA h))
  refine va_calli (va_runS (As := [.int p0, .int 0, .int 9]) (rest := [.ref oM]) ⟨hx, hb, hml, hown, hts⟩ (tX7_in l dC dI _ p0 0 9 ) (va_cwS 3 hts (wd_S wd_393 wd_394 wd_5 (wd_c wd_395)) rfl rfl rfl (by decide +kernel) ⟨Nat.le_of_ble_eq_true rfl, Nat.le_of_ble_eq_true rfl⟩) ⟨Pw.fb, fun U hU hW => Pn.to hK hE hS hA hU hW⟩ rfl rfl hl.1 rfl (lv_room (Nat.le_of_ble_eq_true rfl)) dX7_rests_9 ⟨Nat.le_of_ble_eq_true rfl, Nat.le_of_ble_eq_true rfl⟩) hS (fun q _ h => hFc q h) hFc (fun r u t H locs ht hvm hw hB hz1 hk1 hS => ?_)
  obtain ⟨hP, hD, hK⟩ := Bw.same ht hvm hP hD hK hk1 hFc
  clear hz1 hk1 hvm ht hB
  have hq9 := hw.2
  have hw := hw.1
  obtain ⟨x_3172, rfl⟩ : ∃ z, z = r := ⟨_, rfl⟩
  have hq_x_3172 := hq9
  have hG := hG.trans (lt_eq hq_x_3172.symm)
  have bx_3172 := hw.1
  have dx_3172 := bz_ti bx_3172
  have px_3172 := hw.2
  have hFc := va_free (wc := [(oc7 oM x_3170 rM_tape iM_taped iM_size iM_at iM_end iM_token iM_whole iM_nameSize iM_fault iM_place x_3171 rM_letters iM_failed iM_hasCourt rM_r rM_fresh rM_told rM_read rM_st rM_undone rM_kept iM_undos iM_images rM_fresher iM_fresherSize iM_scale iM_night rM_heardRow rM_cutRow iM_breaths iM_cutMany iM_allBreaths rM_trial rM_words iM_fewestBreaths iM_orderMany iM_orderSum iM_leastOrder rM_often iM_setMany iM_someOf iM_allOf iM_allWeight iM_enoughWeight iM_worthSum iM_firstRest iM_leastDrawn), (arI rM_r kM_r 287 fM_r)]) hD hS hA [1, 0] rfl
  refine va_calli (va_runV (As := [.int x_3172]) (rest := []) ⟨hx, hb, hml, hown, hts⟩ (tX7_why l dC dI _ oM x_3170 rM_tape iM_taped iM_size iM_at iM_end iM_token iM_whole iM_nameSize iM_fault iM_place x_3171 rM_letters iM_failed iM_hasCourt rM_r fM_r kM_r rM_fresh rM_told rM_read rM_st rM_undone rM_kept iM_undos iM_images rM_fresher iM_fresherSize iM_scale iM_night rM_heardRow rM_cutRow iM_breaths iM_cutMany iM_allBreaths rM_trial rM_words iM_fewestBreaths iM_orderMany iM_orderSum iM_leastOrder rM_often iM_setMany iM_someOf iM_allOf iM_allWeight iM_enoughWeight iM_worthSum iM_firstRest iM_leastDrawn x_3172 (by first | omega | decide) (by first | omega | decide) (by first | omega | decide) (by first | omega | decide) (by first | omega | decide) (by first | omega | decide) (by first | omega | decide) (by first | omega | decide) (by first | omega | decide) (by first | omega | decide) (by assumption) (by assumption) (by first | omega | decide | assumption | (have q0 := kc_0; have q1 := kc_1; omega) | (intro h; exact absurd h (by decide)))) (cwV 1 hts (wd_V wd_882 wd_883 wd_884 wd_5 (wd_c wd_885)) rfl rfl rfl (by decide +kernel) ⟨Nat.le_of_ble_eq_true rfl, Nat.le_of_ble_eq_true rfl⟩) ⟨Pw.fb, va_recv hK hP (ci := 7) (q0 := 1) rfl rfl, fun U hU hW => Pw.to (hP.sub [1, 0] rfl) (hD.sub [1, 0] (by decide) rfl) (hK.sub [0] rfl) hE hS hFc hU hW⟩ rfl rfl hl.1 rfl (lv_room (Nat.le_of_ble_eq_true rfl)) dX7_rests_12 ⟨Nat.le_of_ble_eq_true rfl, Nat.le_of_ble_eq_true rfl⟩) hS (fun q _ h => hFc q h) hFc (fun r u t H locs ht hvm hw hB hz1 hk1 hS => ?_)
  have hru9 := hw.2
  have hw := hw.1
  obtain ⟨hP, hD, hK⟩ := Bw.go (ws' := [(oc7 oM x_3170 rM_tape iM_taped iM_size iM_at iM_end iM_token iM_whole iM_nameSize iM_fault iM_place x_3171 rM_letters iM_failed iM_hasCourt rM_r rM_fresh rM_told rM_read rM_st rM_undone rM_kept iM_undos iM_images rM_fresher iM_fresherSize iM_scale iM_night rM_heardRow rM_cutRow iM_breaths iM_cutMany iM_allBreaths rM_trial rM_words iM_fewestBreaths iM_orderMany iM_orderSum iM_leastOrder rM_often iM_setMany iM_someOf iM_allOf iM_allWeight iM_enoughWeight iM_worthSum iM_firstRest iM_leastDrawn), (arI rM_r kM_r 287 fM_r)]) (tys' := [(kM_r, .int)]) hB rfl ht hvm hP hD hK [1, 0] [] rfl (by decide) (by decide) [] hk1 hFc rfl rfl rfl
  clear hz1 hk1 hvm ht hB
  rcases hw.2 with ⟨rfl, hc_3173⟩ | ⟨rfl, hc_3173⟩ | ⟨rfl, hc_3173⟩
  · skip
    have hG := hG.trans (lt_eq hru9.symm)
    have hG := hG.trans (if_pos rfl)
    refine lv_istore_n (lv' := [(2, .int 0), (0, .ref oM), (1, .int p0)]) hx hb dX7_rests_15 rfl hl (by decide) rfl (fun ls hl => ?_)
    refine lv_iload_n hx hb dX7_rests_16 rfl (lv_at hl 0 rfl) ?_
    refine lv_if_eq (tgt := 28) hx hb dX7_rests_17 (by decide) (fun _ => ?_) (fun c => absurd c (by decide))
    refine lv_aload_n hx hb dX7_rests_28 rfl (lv_at hl 1 rfl) ?_
    refine lv_iload_n hx hb dX7_rests_29 rfl (lv_at hl 2 rfl) ?_
    have hFc := va_free (wc := [(oc7 oM x_3170 rM_tape iM_taped iM_size iM_at iM_end iM_token iM_whole iM_nameSize iM_fault iM_place x_3171 rM_letters iM_failed iM_hasCourt rM_r rM_fresh rM_told rM_read rM_st rM_undone rM_kept iM_undos iM_images rM_fresher iM_fresherSize iM_scale iM_night rM_heardRow rM_cutRow iM_breaths iM_cutMany iM_allBreaths rM_trial rM_words iM_fewestBreaths iM_orderMany iM_orderSum iM_leastOrder rM_often iM_setMany iM_someOf iM_allOf iM_allWeight iM_enoughWeight iM_worthSum iM_firstRest iM_leastDrawn)]) hD hS hA [0] rfl
    refine va_calli (va_runV (As := [.int p0]) (rest := []) ⟨hx, hb, hml, hown, hts⟩ (tX7_seekRests l dC dI _ oM x_3170 rM_tape iM_taped iM_size iM_at iM_end iM_token iM_whole iM_nameSize iM_fault iM_place x_3171 rM_letters iM_failed iM_hasCourt rM_r rM_fresh rM_told rM_read rM_st rM_undone rM_kept iM_undos iM_images rM_fresher iM_fresherSize iM_scale iM_night rM_heardRow rM_cutRow iM_breaths iM_cutMany iM_allBreaths rM_trial rM_words iM_fewestBreaths iM_orderMany iM_orderSum iM_leastOrder rM_often iM_setMany iM_someOf iM_allOf iM_allWeight iM_enoughWeight iM_worthSum iM_firstRest iM_leastDrawn p0 (by first | omega | decide) (by first | omega | decide) (by first | omega | decide) (by first | omega | decide) (by first | omega | decide) (by first | omega | decide) (by first | omega | decide) (by first | omega | decide) (by first | omega | decide) (by first | omega | decide)) (cwV 1 hts (wd_V wd_1311 wd_1312 wd_1313 wd_5 (wd_c wd_1314)) rfl rfl rfl (by decide +kernel) ⟨Nat.le_of_ble_eq_true rfl, Nat.le_of_ble_eq_true rfl⟩) ⟨Pw.fb, va_recv hK hP (ci := 7) (q0 := 0) rfl rfl, fun U hU hW => Pw.to (hP.sub [0] rfl) (hD.sub [0] (by decide) rfl) (hK.sub [] rfl) hE hS hFc hU hW⟩ rfl rfl hl.1 rfl (lv_room (Nat.le_of_ble_eq_true rfl)) dX7_rests_30 ⟨Nat.le_of_ble_eq_true rfl, Nat.le_of_ble_eq_true rfl⟩) hS (fun q _ h => hFc q h) hFc (fun r u t H locs ht hvm hw hB hz1 hk1 hS => ?_)
    have hru9 := hw.2
    have hw := hw.1
    obtain ⟨x_3176, e_x_3176_0, hB⟩ := hB
    obtain ⟨hP, hD, hK⟩ := Bw.go (ws' := [(arI rM_r kM_r 287 fM_r), (oc7 oM x_3170 rM_tape iM_taped iM_size iM_at iM_end iM_token iM_whole iM_nameSize iM_fault iM_place x_3171 rM_letters iM_failed iM_hasCourt rM_r rM_fresh rM_told rM_read rM_st rM_undone rM_kept iM_undos iM_images rM_fresher iM_fresherSize iM_scale iM_night rM_heardRow rM_cutRow iM_breaths iM_cutMany iM_allBreaths rM_trial rM_words iM_fewestBreaths iM_orderMany iM_orderSum iM_leastOrder rM_often iM_setMany iM_someOf iM_allOf iM_allWeight iM_enoughWeight iM_worthSum x_3176 iM_leastDrawn)]) (tys' := [(kM_r, .int)]) hB rfl ht hvm hP hD hK [0] [1] rfl (by decide) (by decide) [0] hk1 hFc rfl rfl rfl
    clear hz1 hk1 hvm ht hB
    rw [← hru9] at e_x_3176_0
    obtain ⟨x_3177, rfl⟩ : ∃ z, z = r := ⟨_, rfl⟩
    have hG := hG.trans (un2_eq e_x_3176_0)
    exact W.iret hx hb hr (fun t ht hW => ⟨⟨_, (cI x_3177), rfl, ⟨⟨trivial, trivial⟩, (cI_of x_3177)⟩, ⟨x_3170, x_3171, x_3176, (cI_tup hG), Bw.to (hP.sub [1, 0] rfl) (hD.sub [1, 0] (by decide) rfl) (hK.sub [0] rfl) ht hW⟩⟩, hS.F ht⟩) hS.2.2 dX7_rests_33
  · skip
    have hG := hG.trans (lt_eq hru9.symm)
    have hG := hG.trans (if_neg (by decide))
    have hG := hG.trans (if_pos rfl)
    refine lv_istore_n (lv' := [(2, .int 1), (0, .ref oM), (1, .int p0)]) hx hb dX7_rests_15 rfl hl (by decide) rfl (fun ls hl => ?_)
    refine lv_iload_n hx hb dX7_rests_16 rfl (lv_at hl 0 rfl) ?_
    refine lv_if_eq (tgt := 28) hx hb dX7_rests_17 (by decide) (fun c => absurd c (by decide)) (fun _ => ?_)
    refine lv_aload_n hx hb dX7_rests_20 rfl (lv_at hl 1 rfl) ?_
    refine lv_iload_n hx hb dX7_rests_21 rfl (lv_at hl 0 rfl) ?_
    have hFc := va_free (wc := [(oc7 oM x_3170 rM_tape iM_taped iM_size iM_at iM_end iM_token iM_whole iM_nameSize iM_fault iM_place x_3171 rM_letters iM_failed iM_hasCourt rM_r rM_fresh rM_told rM_read rM_st rM_undone rM_kept iM_undos iM_images rM_fresher iM_fresherSize iM_scale iM_night rM_heardRow rM_cutRow iM_breaths iM_cutMany iM_allBreaths rM_trial rM_words iM_fewestBreaths iM_orderMany iM_orderSum iM_leastOrder rM_often iM_setMany iM_someOf iM_allOf iM_allWeight iM_enoughWeight iM_worthSum iM_firstRest iM_leastDrawn)]) hD hS hA [0] rfl
    refine va_calli (va_runV (As := [.int 1]) (rest := []) ⟨hx, hb, hml, hown, hts⟩ (tX7_no l dC dI _ oM x_3170 rM_tape iM_taped iM_size iM_at iM_end iM_token iM_whole iM_nameSize iM_fault iM_place x_3171 rM_letters iM_failed iM_hasCourt rM_r rM_fresh rM_told rM_read rM_st rM_undone rM_kept iM_undos iM_images rM_fresher iM_fresherSize iM_scale iM_night rM_heardRow rM_cutRow iM_breaths iM_cutMany iM_allBreaths rM_trial rM_words iM_fewestBreaths iM_orderMany iM_orderSum iM_leastOrder rM_often iM_setMany iM_someOf iM_allOf iM_allWeight iM_enoughWeight iM_worthSum iM_firstRest iM_leastDrawn 1 (by first | omega | decide) (by first | omega | decide) (by first | omega | decide) (by first | omega | decide) (by first | omega | decide) (by first | omega | decide) (by first | omega | decide) (by first | omega | decide) (by first | omega | decide) (by first | omega | decide)) (cwV 1 hts (wd_V wd_396 wd_397 wd_398 wd_5 (wd_c wd_399)) rfl rfl rfl (by decide +kernel) ⟨Nat.le_of_ble_eq_true rfl, Nat.le_of_ble_eq_true rfl⟩) ⟨Pw.fb, va_recv hK hP (ci := 7) (q0 := 0) rfl rfl, fun U hU hW => Pw.to (hP.sub [0] rfl) (hD.sub [0] (by decide) rfl) (hK.sub [] rfl) hE hS hFc hU hW⟩ rfl rfl hl.1 rfl (lv_room (Nat.le_of_ble_eq_true rfl)) dX7_rests_22 ⟨Nat.le_of_ble_eq_true rfl, Nat.le_of_ble_eq_true rfl⟩) hS (fun q _ h => hFc q h) hFc (fun r u t H locs ht hvm hw hB hz1 hk1 hS => ?_)
    have hru9 := hw.2
    have hw := hw.1
    obtain ⟨x_3179, e_x_3179_0, hB⟩ := hB
    obtain ⟨hP, hD, hK⟩ := Bw.go (ws' := [(arI rM_r kM_r 287 fM_r), (oc7 oM x_3170 rM_tape iM_taped iM_size iM_at iM_end iM_token iM_whole iM_nameSize iM_fault iM_place x_3179 rM_letters iM_failed iM_hasCourt rM_r rM_fresh rM_told rM_read rM_st rM_undone rM_kept iM_undos iM_images rM_fresher iM_fresherSize iM_scale iM_night rM_heardRow rM_cutRow iM_breaths iM_cutMany iM_allBreaths rM_trial rM_words iM_fewestBreaths iM_orderMany iM_orderSum iM_leastOrder rM_often iM_setMany iM_someOf iM_allOf iM_allWeight iM_enoughWeight iM_worthSum iM_firstRest iM_leastDrawn)]) (tys' := [(kM_r, .int)]) hB rfl ht hvm hP hD hK [0] [1] rfl (by decide) (by decide) [0] hk1 hFc rfl rfl rfl
    clear hz1 hk1 hvm ht hB
    rw [← hru9] at e_x_3179_0
    obtain ⟨x_3180, rfl⟩ : ∃ z, z = r := ⟨_, rfl⟩
    have hG := hG.trans (un2_eq e_x_3179_0)
    refine lv_goto (tgt := 33) hx hb dX7_rests_25 (by decide) ?_
    exact W.iret hx hb hr (fun t ht hW => ⟨⟨_, (cI x_3180), rfl, ⟨⟨trivial, trivial⟩, (cI_of x_3180)⟩, ⟨x_3170, x_3179, iM_firstRest, (cI_tup hG), Bw.to (hP.sub [1, 0] rfl) (hD.sub [1, 0] (by decide) rfl) (hK.sub [0] rfl) ht hW⟩⟩, hS.F ht⟩) hS.2.2 dX7_rests_33
  · skip
    have hG := hG.trans (lt_eq hru9.symm)
    have hG := hG.trans (if_neg (by decide))
    have hG := hG.trans (if_neg (by decide))
    refine lv_istore_n (lv' := [(2, .int 2), (0, .ref oM), (1, .int p0)]) hx hb dX7_rests_15 rfl hl (by decide) rfl (fun ls hl => ?_)
    refine lv_iload_n hx hb dX7_rests_16 rfl (lv_at hl 0 rfl) ?_
    refine lv_if_eq (tgt := 28) hx hb dX7_rests_17 (by decide) (fun c => absurd c (by decide)) (fun _ => ?_)
    refine lv_aload_n hx hb dX7_rests_20 rfl (lv_at hl 1 rfl) ?_
    refine lv_iload_n hx hb dX7_rests_21 rfl (lv_at hl 0 rfl) ?_
    have hFc := va_free (wc := [(oc7 oM x_3170 rM_tape iM_taped iM_size iM_at iM_end iM_token iM_whole iM_nameSize iM_fault iM_place x_3171 rM_letters iM_failed iM_hasCourt rM_r rM_fresh rM_told rM_read rM_st rM_undone rM_kept iM_undos iM_images rM_fresher iM_fresherSize iM_scale iM_night rM_heardRow rM_cutRow iM_breaths iM_cutMany iM_allBreaths rM_trial rM_words iM_fewestBreaths iM_orderMany iM_orderSum iM_leastOrder rM_often iM_setMany iM_someOf iM_allOf iM_allWeight iM_enoughWeight iM_worthSum iM_firstRest iM_leastDrawn)]) hD hS hA [0] rfl
    refine va_calli (va_runV (As := [.int 2]) (rest := []) ⟨hx, hb, hml, hown, hts⟩ (tX7_no l dC dI _ oM x_3170 rM_tape iM_taped iM_size iM_at iM_end iM_token iM_whole iM_nameSize iM_fault iM_place x_3171 rM_letters iM_failed iM_hasCourt rM_r rM_fresh rM_told rM_read rM_st rM_undone rM_kept iM_undos iM_images rM_fresher iM_fresherSize iM_scale iM_night rM_heardRow rM_cutRow iM_breaths iM_cutMany iM_allBreaths rM_trial rM_words iM_fewestBreaths iM_orderMany iM_orderSum iM_leastOrder rM_often iM_setMany iM_someOf iM_allOf iM_allWeight iM_enoughWeight iM_worthSum iM_firstRest iM_leastDrawn 2 (by first | omega | decide) (by first | omega | decide) (by first | omega | decide) (by first | omega | decide) (by first | omega | decide) (by first | omega | decide) (by first | omega | decide) (by first | omega | decide) (by first | omega | decide) (by first | omega | decide)) (cwV 1 hts (wd_V wd_396 wd_397 wd_398 wd_5 (wd_c wd_399)) rfl rfl rfl (by decide +kernel) ⟨Nat.le_of_ble_eq_true rfl, Nat.le_of_ble_eq_true rfl⟩) ⟨Pw.fb, va_recv hK hP (ci := 7) (q0 := 0) rfl rfl, fun U hU hW => Pw.to (hP.sub [0] rfl) (hD.sub [0] (by decide) rfl) (hK.sub [] rfl) hE hS hFc hU hW⟩ rfl rfl hl.1 rfl (lv_room (Nat.le_of_ble_eq_true rfl)) dX7_rests_22 ⟨Nat.le_of_ble_eq_true rfl, Nat.le_of_ble_eq_true rfl⟩) hS (fun q _ h => hFc q h) hFc (fun r u t H locs ht hvm hw hB hz1 hk1 hS => ?_)
    have hru9 := hw.2
    have hw := hw.1
    obtain ⟨x_3182, e_x_3182_0, hB⟩ := hB
    obtain ⟨hP, hD, hK⟩ := Bw.go (ws' := [(arI rM_r kM_r 287 fM_r), (oc7 oM x_3170 rM_tape iM_taped iM_size iM_at iM_end iM_token iM_whole iM_nameSize iM_fault iM_place x_3182 rM_letters iM_failed iM_hasCourt rM_r rM_fresh rM_told rM_read rM_st rM_undone rM_kept iM_undos iM_images rM_fresher iM_fresherSize iM_scale iM_night rM_heardRow rM_cutRow iM_breaths iM_cutMany iM_allBreaths rM_trial rM_words iM_fewestBreaths iM_orderMany iM_orderSum iM_leastOrder rM_often iM_setMany iM_someOf iM_allOf iM_allWeight iM_enoughWeight iM_worthSum iM_firstRest iM_leastDrawn)]) (tys' := [(kM_r, .int)]) hB rfl ht hvm hP hD hK [0] [1] rfl (by decide) (by decide) [0] hk1 hFc rfl rfl rfl
    clear hz1 hk1 hvm ht hB
    rw [← hru9] at e_x_3182_0
    obtain ⟨x_3183, rfl⟩ : ∃ z, z = r := ⟨_, rfl⟩
    have hG := hG.trans (un2_eq e_x_3182_0)
    refine lv_goto (tgt := 33) hx hb dX7_rests_25 (by decide) ?_
    exact W.iret hx hb hr (fun t ht hW => ⟨⟨_, (cI x_3183), rfl, ⟨⟨trivial, trivial⟩, (cI_of x_3183)⟩, ⟨x_3170, x_3182, iM_firstRest, (cI_tup hG), Bw.to (hP.sub [1, 0] rfl) (hD.sub [1, 0] (by decide) rfl) (hK.sub [0] rfl) ht hW⟩⟩, hS.F ht⟩) hS.2.2 dX7_rests_33
set_option maxHeartbeats 4000000 in
set_option maxRecDepth 100000 in
theorem tX7_rest (l : Launch) (dC : Nat → ClassId) (dI : Nat → Nat → Nat) (sz : Nat) (oM : Nat) (iM_thrown : Int32) (rM_tape : Nat) (iM_taped : Int32) (iM_size : Int32) (iM_at : Int32) (iM_end : Int32) (iM_token : Int32) (iM_whole : Int32) (iM_nameSize : Int32) (iM_fault : Int32) (iM_place : Int32) (iM_trouble : Int32) (rM_letters : Nat) (iM_failed : Int32) (iM_hasCourt : Int32) (rM_r : Nat) (fM_r : Nat → Int32) (kM_r : ClassId) (rM_fresh : Nat) (rM_told : Nat) (rM_read : Nat) (rM_st : Nat) (rM_undone : Nat) (rM_kept : Nat) (iM_undos : Int32) (iM_images : Int32) (rM_fresher : Nat) (iM_fresherSize : Int32) (iM_scale : Int32) (iM_night : Int32) (rM_heardRow : Nat) (rM_cutRow : Nat) (iM_breaths : Int32) (iM_cutMany : Int32) (iM_allBreaths : Int32) (rM_trial : Nat) (rM_words : Nat) (iM_fewestBreaths : Int32) (iM_orderMany : Int32) (iM_orderSum : Int32) (iM_leastOrder : Int32) (rM_often : Nat) (iM_setMany : Int32) (iM_someOf : Int32) (iM_allOf : Int32) (iM_allWeight : Int64) (iM_enoughWeight : Int64) (iM_worthSum : Int64) (iM_firstRest : Int32) (iM_leastDrawn : Int32) (p0 : Int32) (b_iM_taped : 0 ≤ iM_taped.toInt ∧ iM_taped.toInt ≤ 900) (b_iM_size : 0 ≤ iM_size.toInt ∧ iM_size.toInt ≤ 900) (b_iM_end : 0 ≤ iM_end.toInt ∧ iM_end.toInt ≤ 900) (b_iM_failed : 0 ≤ iM_failed.toInt ∧ iM_failed.toInt ≤ 1) (b_iM_hasCourt : 0 ≤ iM_hasCourt.toInt ∧ iM_hasCourt.toInt ≤ 1) (b_iM_undos : 0 ≤ iM_undos.toInt ∧ iM_undos.toInt ≤ 16) (b_iM_images : 0 ≤ iM_images.toInt ∧ iM_images.toInt ≤ 3) (b_iM_scale : 1 ≤ iM_scale.toInt ∧ iM_scale.toInt ≤ 1296) (b_iM_breaths : 0 ≤ iM_breaths.toInt ∧ iM_breaths.toInt ≤ 399) (b_iM_cutMany : 0 ≤ iM_cutMany.toInt ∧ iM_cutMany.toInt ≤ 399) (r_R : ROk fM_r) (r_C : iM_hasCourt.toInt ≤ 0 ∨ (1 ≤ (fM_r 1).toInt ∧ 0 ≤ (fM_r 6).toInt ∧ (fM_r 6).toInt < (fM_r 1).toInt))  : Met l yX7_rest (Cond.code yX7_rest cX7_rest 3 (some .int) :: wG) ({ frames := 2, cells := 0, slots := 0, locals := 47 }) (va_Pc [.ref oM, .int p0] (Pw dC dI sz [(oc7 oM iM_thrown rM_tape iM_taped iM_size iM_at iM_end iM_token iM_whole iM_nameSize iM_fault iM_place iM_trouble rM_letters iM_failed iM_hasCourt rM_r rM_fresh rM_told rM_read rM_st rM_undone rM_kept iM_undos iM_images rM_fresher iM_fresherSize iM_scale iM_night rM_heardRow rM_cutRow iM_breaths iM_cutMany iM_allBreaths rM_trial rM_words iM_fewestBreaths iM_orderMany iM_orderSum iM_leastOrder rM_often iM_setMany iM_someOf iM_allOf iM_allWeight iM_enoughWeight iM_worthSum iM_firstRest iM_leastDrawn), (arI rM_r kM_r 287 fM_r)] [(kM_r, .int)])) (va_Qi (fun (r : Int32) (u : Nat) => (True ∧ True) ∧ r = Int32.ofNat u) (fun (u : Nat) (t : State) => ∃ (niM_thrown : Int32) (niM_trouble : Int32) (niM_firstRest : Int32), (PX7_rest iM_hasCourt iM_firstRest p0 = (Int32.ofNat u, niM_thrown, niM_trouble, niM_firstRest)) ∧ Bw dC dI (va_A [(oc7 oM iM_thrown rM_tape iM_taped iM_size iM_at iM_end iM_token iM_whole iM_nameSize iM_fault iM_place iM_trouble rM_letters iM_failed iM_hasCourt rM_r rM_fresh rM_told rM_read rM_st rM_undone rM_kept iM_undos iM_images rM_fresher iM_fresherSize iM_scale iM_night rM_heardRow rM_cutRow iM_breaths iM_cutMany iM_allBreaths rM_trial rM_words iM_fewestBreaths iM_orderMany iM_orderSum iM_leastOrder rM_often iM_setMany iM_someOf iM_allOf iM_allWeight iM_enoughWeight iM_worthSum iM_firstRest iM_leastDrawn), (arI rM_r kM_r 287 fM_r)] sz) [(oc7 oM niM_thrown rM_tape iM_taped iM_size iM_at iM_end iM_token iM_whole iM_nameSize iM_fault iM_place niM_trouble rM_letters iM_failed iM_hasCourt rM_r rM_fresh rM_told rM_read rM_st rM_undone rM_kept iM_undos iM_images rM_fresher iM_fresherSize iM_scale iM_night rM_heardRow rM_cutRow iM_breaths iM_cutMany iM_allBreaths rM_trial rM_words iM_fewestBreaths iM_orderMany iM_orderSum iM_leastOrder rM_often iM_setMany iM_someOf iM_allOf iM_allWeight iM_enoughWeight iM_worthSum niM_firstRest iM_leastDrawn), (arI rM_r kM_r 287 fM_r)] [(kM_r, .int)] t) (va_A [(oc7 oM iM_thrown rM_tape iM_taped iM_size iM_at iM_end iM_token iM_whole iM_nameSize iM_fault iM_place iM_trouble rM_letters iM_failed iM_hasCourt rM_r rM_fresh rM_told rM_read rM_st rM_undone rM_kept iM_undos iM_images rM_fresher iM_fresherSize iM_scale iM_night rM_heardRow rM_cutRow iM_breaths iM_cutMany iM_allBreaths rM_trial rM_words iM_fewestBreaths iM_orderMany iM_orderSum iM_leastOrder rM_often iM_setMany iM_someOf iM_allOf iM_allWeight iM_enoughWeight iM_worthSum iM_firstRest iM_leastDrawn), (arI rM_r kM_r 287 fM_r)] sz)) 0 0 (va_A [(oc7 oM iM_thrown rM_tape iM_taped iM_size iM_at iM_end iM_token iM_whole iM_nameSize iM_fault iM_place iM_trouble rM_letters iM_failed iM_hasCourt rM_r rM_fresh rM_told rM_read rM_st rM_undone rM_kept iM_undos iM_images rM_fresher iM_fresherSize iM_scale iM_night rM_heardRow rM_cutRow iM_breaths iM_cutMany iM_allBreaths rM_trial rM_words iM_fewestBreaths iM_orderMany iM_orderSum iM_leastOrder rM_often iM_setMany iM_someOf iM_allOf iM_allWeight iM_enoughWeight iM_worthSum iM_firstRest iM_leastDrawn), (arI rM_r kM_r 287 fM_r)] sz) := by
  refine Met.ofW (cc := cX7_rest) (maxL := 3) (ret := (some .int)) (by decide) rfl ?_
  intro p e s m args below meth c s₁ B hml hv
  obtain ⟨rfl, hsz, hP, hK, hD0, hE⟩ := hv
  have hx := B.exec
  have hb := B.bytes
  have hr := B.returns
  have hts : ∀ w ∈ wG, w.before ([.ref oM, .int p0] : List Value).toArray s = true := fun w h => atoms_spec (ws := Cond.code yX7_rest cX7_rest 3 (some .int) :: wG) B.pre w (List.mem_cons_of_mem _ h)
  have hown : s.vm.findClass RX7 = some m.cls := findClass_of_methodNamed B.named
  have hlocks := B.notSynchronized
  subst hsz
  have hD := hD0.self (sz := s.heap.size)
  generalize hAe : va_A [(oc7 oM iM_thrown rM_tape iM_taped iM_size iM_at iM_end iM_token iM_whole iM_nameSize iM_fault iM_place iM_trouble rM_letters iM_failed iM_hasCourt rM_r rM_fresh rM_told rM_read rM_st rM_undone rM_kept iM_undos iM_images rM_fresher iM_fresherSize iM_scale iM_night rM_heardRow rM_cutRow iM_breaths iM_cutMany iM_allBreaths rM_trial rM_words iM_fewestBreaths iM_orderMany iM_orderSum iM_leastOrder rM_often iM_setMany iM_someOf iM_allOf iM_allWeight iM_enoughWeight iM_worthSum iM_firstRest iM_leastDrawn), (arI rM_r kM_r 287 fM_r)] s.heap.size = A at hD hE ⊢
  have hA : ∀ q : Nat, s.heap.size ≤ q → A q := fun q h => by rw [← hAe]; exact Or.inr h
  have hS : va_S A s.heap s.heap [] := va_S.rf
  have hl := lv_entry ([.ref oM, .int p0]) (n := 3) (Nat.le_of_ble_eq_true rfl)
  rw [lg_entry_eq]
  generalize (lg_sl ([.ref oM, .int p0]) ++ List.replicate (3 - (lg_sl ([.ref oM, .int p0])).length) Slot.unset).toArray = ls at hl ⊢
  have hl : lv_has ls 3 [(0, .ref oM), (1, .int p0)] := hl
  have hG := PX7_rest_eq iM_hasCourt iM_firstRest p0
  have s_slips := r_R.slips
  have s_nodes := r_R.nodes
  have s_uns := r_R.uns
  refine lv_aload_n hx hb dX7_rest_0 rfl (lv_at hl 0 rfl) ?_
  have hFc := va_free (wc := [(oc7 oM iM_thrown rM_tape iM_taped iM_size iM_at iM_end iM_token iM_whole iM_nameSize iM_fault iM_place iM_trouble rM_letters iM_failed iM_hasCourt rM_r rM_fresh rM_told rM_read rM_st rM_undone rM_kept iM_undos iM_images rM_fresher iM_fresherSize iM_scale iM_night rM_heardRow rM_cutRow iM_breaths iM_cutMany iM_allBreaths rM_trial rM_words iM_fewestBreaths iM_orderMany iM_orderSum iM_leastOrder rM_often iM_setMany iM_someOf iM_allOf iM_allWeight iM_enoughWeight iM_worthSum iM_firstRest iM_leastDrawn)]) hD hS hA [0] rfl
  refine va_callv (va_runV (As := []) (rest := []) ⟨hx, hb, hml, hown, hts⟩ (tX7_good l dC dI _ oM iM_thrown rM_tape iM_taped iM_size iM_at iM_end iM_token iM_whole iM_nameSize iM_fault iM_place iM_trouble rM_letters iM_failed iM_hasCourt rM_r rM_fresh rM_told rM_read rM_st rM_undone rM_kept iM_undos iM_images rM_fresher iM_fresherSize iM_scale iM_night rM_heardRow rM_cutRow iM_breaths iM_cutMany iM_allBreaths rM_trial rM_words iM_fewestBreaths iM_orderMany iM_orderSum iM_leastOrder rM_often iM_setMany iM_someOf iM_allOf iM_allWeight iM_enoughWeight iM_worthSum iM_firstRest iM_leastDrawn (by first | omega | decide) (by first | omega | decide) (by first | omega | decide) (by first | omega | decide) (by first | omega | decide) (by first | omega | decide) (by first | omega | decide) (by first | omega | decide) (by first | omega | decide) (by first | omega | decide)) (cwV 0 hts (wd_V wd_388 wd_389 wd_390 wd_5 (wd_c wd_391)) rfl rfl rfl (by decide +kernel) ⟨Nat.le_of_ble_eq_true rfl, Nat.le_of_ble_eq_true rfl⟩) ⟨Pw.fb, va_recv hK hP (ci := 7) (q0 := 0) rfl rfl, fun U hU hW => Pw.to (hP.sub [0] rfl) (hD.sub [0] (by decide) rfl) (hK.sub [] rfl) hE hS hFc hU hW⟩ rfl rfl hl.1 rfl (lv_room (Nat.le_of_ble_eq_true rfl)) dX7_rest_1 ⟨Nat.le_of_ble_eq_true rfl, Nat.le_of_ble_eq_true rfl⟩) hS (fun q _ h => hFc q h) hFc (fun u t H locs ht hvm hw hB hz1 hk1 hS => ?_)
  obtain ⟨x_3197, x_3198, b_x_3197, b_x_3198, e_x_3197_0, hB⟩ := hB
  obtain ⟨hP, hD, hK⟩ := Bw.go (ws' := [(arI rM_r kM_r 287 fM_r), (oc7 oM x_3197 rM_tape iM_taped iM_size iM_at iM_end iM_token iM_whole iM_nameSize iM_fault iM_place x_3198 rM_letters iM_failed iM_hasCourt rM_r rM_fresh rM_told rM_read rM_st rM_undone rM_kept iM_undos iM_images rM_fresher iM_fresherSize iM_scale iM_night rM_heardRow rM_cutRow iM_breaths iM_cutMany iM_allBreaths rM_trial rM_words iM_fewestBreaths iM_orderMany iM_orderSum iM_leastOrder rM_often iM_setMany iM_someOf iM_allOf iM_allWeight iM_enoughWeight iM_worthSum iM_firstRest iM_leastDrawn)]) (tys' := [(kM_r, .int)]) hB rfl ht hvm hP hD hK [0] [1] rfl (by decide) (by decide) [0] hk1 hFc rfl rfl rfl
  clear hz1 hk1 hvm ht hB
  have hG := hG.trans (un2_eq e_x_3197_0)
  refine lv_aload_n hx hb dX7_rest_4 rfl (lv_at hl 0 rfl) ?_
  refine lv_iload_n hx hb dX7_rest_5 rfl (lv_at hl 1 rfl) ?_
  refine lv_iconst (v := 0) hx hb dX7_rest_6 (by decide) ?_
  refine lv_bipush (v := 9) hx hb dX7_rest_7 (by decide) ?_
  have hFc : ∀ q, va_A [] _ q → A q := fun q h => hA q (Nat.le_trans hS.1 (va_nilA h))
  refine va_calli (va_runS (As := [.int p0, .int 0, .int 9]) (rest := [.ref oM]) ⟨hx, hb, hml, hown, hts⟩ (tX7_in l dC dI _ p0 0 9 ) (va_cwS 3 hts (wd_S wd_393 wd_394 wd_5 (wd_c wd_395)) rfl rfl rfl (by decide +kernel) ⟨Nat.le_of_ble_eq_true rfl, Nat.le_of_ble_eq_true rfl⟩) ⟨Pw.fb, fun U hU hW => Pn.to hK hE hS hA hU hW⟩ rfl rfl hl.1 rfl (lv_room (Nat.le_of_ble_eq_true rfl)) dX7_rest_9 ⟨Nat.le_of_ble_eq_true rfl, Nat.le_of_ble_eq_true rfl⟩) hS (fun q _ h => hFc q h) hFc (fun r u t H locs ht hvm hw hB hz1 hk1 hS => ?_)
  obtain ⟨hP, hD, hK⟩ := Bw.same ht hvm hP hD hK hk1 hFc
  clear hz1 hk1 hvm ht hB
  have hq9 := hw.2
  have hw := hw.1
  obtain ⟨x_3199, rfl⟩ : ∃ z, z = r := ⟨_, rfl⟩
  have hq_x_3199 := hq9
  have hG := hG.trans (lt_eq hq_x_3199.symm)
  have bx_3199 := hw.1
  have dx_3199 := bz_ti bx_3199
  have px_3199 := hw.2
  have hFc := va_free (wc := [(oc7 oM x_3197 rM_tape iM_taped iM_size iM_at iM_end iM_token iM_whole iM_nameSize iM_fault iM_place x_3198 rM_letters iM_failed iM_hasCourt rM_r rM_fresh rM_told rM_read rM_st rM_undone rM_kept iM_undos iM_images rM_fresher iM_fresherSize iM_scale iM_night rM_heardRow rM_cutRow iM_breaths iM_cutMany iM_allBreaths rM_trial rM_words iM_fewestBreaths iM_orderMany iM_orderSum iM_leastOrder rM_often iM_setMany iM_someOf iM_allOf iM_allWeight iM_enoughWeight iM_worthSum iM_firstRest iM_leastDrawn), (arI rM_r kM_r 287 fM_r)]) hD hS hA [1, 0] rfl
  refine va_calli (va_runV (As := [.int x_3199]) (rest := []) ⟨hx, hb, hml, hown, hts⟩ (tX7_why l dC dI _ oM x_3197 rM_tape iM_taped iM_size iM_at iM_end iM_token iM_whole iM_nameSize iM_fault iM_place x_3198 rM_letters iM_failed iM_hasCourt rM_r fM_r kM_r rM_fresh rM_told rM_read rM_st rM_undone rM_kept iM_undos iM_images rM_fresher iM_fresherSize iM_scale iM_night rM_heardRow rM_cutRow iM_breaths iM_cutMany iM_allBreaths rM_trial rM_words iM_fewestBreaths iM_orderMany iM_orderSum iM_leastOrder rM_often iM_setMany iM_someOf iM_allOf iM_allWeight iM_enoughWeight iM_worthSum iM_firstRest iM_leastDrawn x_3199 (by first | omega | decide) (by first | omega | decide) (by first | omega | decide) (by first | omega | decide) (by first | omega | decide) (by first | omega | decide) (by first | omega | decide) (by first | omega | decide) (by first | omega | decide) (by first | omega | decide) (by assumption) (by assumption) (by first | omega | decide | assumption | (have q0 := kc_0; have q1 := kc_1; omega) | (intro h; exact absurd h (by decide)))) (cwV 1 hts (wd_V wd_882 wd_883 wd_884 wd_5 (wd_c wd_885)) rfl rfl rfl (by decide +kernel) ⟨Nat.le_of_ble_eq_true rfl, Nat.le_of_ble_eq_true rfl⟩) ⟨Pw.fb, va_recv hK hP (ci := 7) (q0 := 1) rfl rfl, fun U hU hW => Pw.to (hP.sub [1, 0] rfl) (hD.sub [1, 0] (by decide) rfl) (hK.sub [0] rfl) hE hS hFc hU hW⟩ rfl rfl hl.1 rfl (lv_room (Nat.le_of_ble_eq_true rfl)) dX7_rest_12 ⟨Nat.le_of_ble_eq_true rfl, Nat.le_of_ble_eq_true rfl⟩) hS (fun q _ h => hFc q h) hFc (fun r u t H locs ht hvm hw hB hz1 hk1 hS => ?_)
  have hru9 := hw.2
  have hw := hw.1
  obtain ⟨hP, hD, hK⟩ := Bw.go (ws' := [(oc7 oM x_3197 rM_tape iM_taped iM_size iM_at iM_end iM_token iM_whole iM_nameSize iM_fault iM_place x_3198 rM_letters iM_failed iM_hasCourt rM_r rM_fresh rM_told rM_read rM_st rM_undone rM_kept iM_undos iM_images rM_fresher iM_fresherSize iM_scale iM_night rM_heardRow rM_cutRow iM_breaths iM_cutMany iM_allBreaths rM_trial rM_words iM_fewestBreaths iM_orderMany iM_orderSum iM_leastOrder rM_often iM_setMany iM_someOf iM_allOf iM_allWeight iM_enoughWeight iM_worthSum iM_firstRest iM_leastDrawn), (arI rM_r kM_r 287 fM_r)]) (tys' := [(kM_r, .int)]) hB rfl ht hvm hP hD hK [1, 0] [] rfl (by decide) (by decide) [] hk1 hFc rfl rfl rfl
  clear hz1 hk1 hvm ht hB
  rcases hw.2 with ⟨rfl, hc_3200⟩ | ⟨rfl, hc_3200⟩ | ⟨rfl, hc_3200⟩
  · skip
    have hG := hG.trans (lt_eq hru9.symm)
    have hG := hG.trans (if_pos rfl)
    refine lv_istore_n (lv' := [(2, .int 0), (0, .ref oM), (1, .int p0)]) hx hb dX7_rest_15 rfl hl (by decide) rfl (fun ls hl => ?_)
    refine lv_iload_n hx hb dX7_rest_16 rfl (lv_at hl 0 rfl) ?_
    refine lv_if_eq (tgt := 26) hx hb dX7_rest_17 (by decide) (fun _ => ?_) (fun c => absurd c (by decide))
    refine lv_aload_n hx hb dX7_rest_26 rfl (lv_at hl 1 rfl) ?_
    refine lv_iload_n hx hb dX7_rest_27 rfl (lv_at hl 2 rfl) ?_
    have hFc := va_free (wc := [(oc7 oM x_3197 rM_tape iM_taped iM_size iM_at iM_end iM_token iM_whole iM_nameSize iM_fault iM_place x_3198 rM_letters iM_failed iM_hasCourt rM_r rM_fresh rM_told rM_read rM_st rM_undone rM_kept iM_undos iM_images rM_fresher iM_fresherSize iM_scale iM_night rM_heardRow rM_cutRow iM_breaths iM_cutMany iM_allBreaths rM_trial rM_words iM_fewestBreaths iM_orderMany iM_orderSum iM_leastOrder rM_often iM_setMany iM_someOf iM_allOf iM_allWeight iM_enoughWeight iM_worthSum iM_firstRest iM_leastDrawn)]) hD hS hA [0] rfl
    refine va_calli (va_runV (As := [.int p0]) (rest := []) ⟨hx, hb, hml, hown, hts⟩ (tX7_seekRests l dC dI _ oM x_3197 rM_tape iM_taped iM_size iM_at iM_end iM_token iM_whole iM_nameSize iM_fault iM_place x_3198 rM_letters iM_failed iM_hasCourt rM_r rM_fresh rM_told rM_read rM_st rM_undone rM_kept iM_undos iM_images rM_fresher iM_fresherSize iM_scale iM_night rM_heardRow rM_cutRow iM_breaths iM_cutMany iM_allBreaths rM_trial rM_words iM_fewestBreaths iM_orderMany iM_orderSum iM_leastOrder rM_often iM_setMany iM_someOf iM_allOf iM_allWeight iM_enoughWeight iM_worthSum iM_firstRest iM_leastDrawn p0 (by first | omega | decide) (by first | omega | decide) (by first | omega | decide) (by first | omega | decide) (by first | omega | decide) (by first | omega | decide) (by first | omega | decide) (by first | omega | decide) (by first | omega | decide) (by first | omega | decide)) (cwV 1 hts (wd_V wd_1311 wd_1312 wd_1313 wd_5 (wd_c wd_1314)) rfl rfl rfl (by decide +kernel) ⟨Nat.le_of_ble_eq_true rfl, Nat.le_of_ble_eq_true rfl⟩) ⟨Pw.fb, va_recv hK hP (ci := 7) (q0 := 0) rfl rfl, fun U hU hW => Pw.to (hP.sub [0] rfl) (hD.sub [0] (by decide) rfl) (hK.sub [] rfl) hE hS hFc hU hW⟩ rfl rfl hl.1 rfl (lv_room (Nat.le_of_ble_eq_true rfl)) dX7_rest_28 ⟨Nat.le_of_ble_eq_true rfl, Nat.le_of_ble_eq_true rfl⟩) hS (fun q _ h => hFc q h) hFc (fun r u t H locs ht hvm hw hB hz1 hk1 hS => ?_)
    have hru9 := hw.2
    have hw := hw.1
    obtain ⟨x_3203, e_x_3203_0, hB⟩ := hB
    obtain ⟨hP, hD, hK⟩ := Bw.go (ws' := [(arI rM_r kM_r 287 fM_r), (oc7 oM x_3197 rM_tape iM_taped iM_size iM_at iM_end iM_token iM_whole iM_nameSize iM_fault iM_place x_3198 rM_letters iM_failed iM_hasCourt rM_r rM_fresh rM_told rM_read rM_st rM_undone rM_kept iM_undos iM_images rM_fresher iM_fresherSize iM_scale iM_night rM_heardRow rM_cutRow iM_breaths iM_cutMany iM_allBreaths rM_trial rM_words iM_fewestBreaths iM_orderMany iM_orderSum iM_leastOrder rM_often iM_setMany iM_someOf iM_allOf iM_allWeight iM_enoughWeight iM_worthSum x_3203 iM_leastDrawn)]) (tys' := [(kM_r, .int)]) hB rfl ht hvm hP hD hK [0] [1] rfl (by decide) (by decide) [0] hk1 hFc rfl rfl rfl
    clear hz1 hk1 hvm ht hB
    rw [← hru9] at e_x_3203_0
    obtain ⟨x_3204, rfl⟩ : ∃ z, z = r := ⟨_, rfl⟩
    have hG := hG.trans (un2_eq e_x_3203_0)
    refine lv_pop hx hb dX7_rest_31 rfl ?_
    refine lv_aload_n hx hb dX7_rest_32 rfl (lv_at hl 1 rfl) ?_
    refine va_get (D := (dC, dI)) (ci := 7) (v := .int x_3203) (C := RX7) (T := TX7) (N := 48) hx hb hts inX7 hown hK hP 1 rfl rfl 46 (by decide) (hts _ wd_1315) (fun _ h9 => h9) rfl dX7_rest_33 ?_
    exact W.iret hx hb hr (fun t ht hW => ⟨⟨_, (cI x_3203), rfl, ⟨⟨trivial, trivial⟩, (cI_of x_3203)⟩, ⟨x_3197, x_3198, x_3203, (cI_tup hG), Bw.to (hP.sub [1, 0] rfl) (hD.sub [1, 0] (by decide) rfl) (hK.sub [0] rfl) ht hW⟩⟩, hS.F ht⟩) hS.2.2 dX7_rest_36
  · skip
    have hG := hG.trans (lt_eq hru9.symm)
    have hG := hG.trans (if_neg (by decide))
    have hG := hG.trans (if_pos rfl)
    refine lv_istore_n (lv' := [(2, .int 1), (0, .ref oM), (1, .int p0)]) hx hb dX7_rest_15 rfl hl (by decide) rfl (fun ls hl => ?_)
    refine lv_iload_n hx hb dX7_rest_16 rfl (lv_at hl 0 rfl) ?_
    refine lv_if_eq (tgt := 26) hx hb dX7_rest_17 (by decide) (fun c => absurd c (by decide)) (fun _ => ?_)
    refine lv_aload_n hx hb dX7_rest_20 rfl (lv_at hl 1 rfl) ?_
    refine lv_iload_n hx hb dX7_rest_21 rfl (lv_at hl 0 rfl) ?_
    have hFc := va_free (wc := [(oc7 oM x_3197 rM_tape iM_taped iM_size iM_at iM_end iM_token iM_whole iM_nameSize iM_fault iM_place x_3198 rM_letters iM_failed iM_hasCourt rM_r rM_fresh rM_told rM_read rM_st rM_undone rM_kept iM_undos iM_images rM_fresher iM_fresherSize iM_scale iM_night rM_heardRow rM_cutRow iM_breaths iM_cutMany iM_allBreaths rM_trial rM_words iM_fewestBreaths iM_orderMany iM_orderSum iM_leastOrder rM_often iM_setMany iM_someOf iM_allOf iM_allWeight iM_enoughWeight iM_worthSum iM_firstRest iM_leastDrawn)]) hD hS hA [0] rfl
    refine va_calli (va_runV (As := [.int 1]) (rest := []) ⟨hx, hb, hml, hown, hts⟩ (tX7_no l dC dI _ oM x_3197 rM_tape iM_taped iM_size iM_at iM_end iM_token iM_whole iM_nameSize iM_fault iM_place x_3198 rM_letters iM_failed iM_hasCourt rM_r rM_fresh rM_told rM_read rM_st rM_undone rM_kept iM_undos iM_images rM_fresher iM_fresherSize iM_scale iM_night rM_heardRow rM_cutRow iM_breaths iM_cutMany iM_allBreaths rM_trial rM_words iM_fewestBreaths iM_orderMany iM_orderSum iM_leastOrder rM_often iM_setMany iM_someOf iM_allOf iM_allWeight iM_enoughWeight iM_worthSum iM_firstRest iM_leastDrawn 1 (by first | omega | decide) (by first | omega | decide) (by first | omega | decide) (by first | omega | decide) (by first | omega | decide) (by first | omega | decide) (by first | omega | decide) (by first | omega | decide) (by first | omega | decide) (by first | omega | decide)) (cwV 1 hts (wd_V wd_396 wd_397 wd_398 wd_5 (wd_c wd_399)) rfl rfl rfl (by decide +kernel) ⟨Nat.le_of_ble_eq_true rfl, Nat.le_of_ble_eq_true rfl⟩) ⟨Pw.fb, va_recv hK hP (ci := 7) (q0 := 0) rfl rfl, fun U hU hW => Pw.to (hP.sub [0] rfl) (hD.sub [0] (by decide) rfl) (hK.sub [] rfl) hE hS hFc hU hW⟩ rfl rfl hl.1 rfl (lv_room (Nat.le_of_ble_eq_true rfl)) dX7_rest_22 ⟨Nat.le_of_ble_eq_true rfl, Nat.le_of_ble_eq_true rfl⟩) hS (fun q _ h => hFc q h) hFc (fun r u t H locs ht hvm hw hB hz1 hk1 hS => ?_)
    have hru9 := hw.2
    have hw := hw.1
    obtain ⟨x_3206, e_x_3206_0, hB⟩ := hB
    obtain ⟨hP, hD, hK⟩ := Bw.go (ws' := [(arI rM_r kM_r 287 fM_r), (oc7 oM x_3197 rM_tape iM_taped iM_size iM_at iM_end iM_token iM_whole iM_nameSize iM_fault iM_place x_3206 rM_letters iM_failed iM_hasCourt rM_r rM_fresh rM_told rM_read rM_st rM_undone rM_kept iM_undos iM_images rM_fresher iM_fresherSize iM_scale iM_night rM_heardRow rM_cutRow iM_breaths iM_cutMany iM_allBreaths rM_trial rM_words iM_fewestBreaths iM_orderMany iM_orderSum iM_leastOrder rM_often iM_setMany iM_someOf iM_allOf iM_allWeight iM_enoughWeight iM_worthSum iM_firstRest iM_leastDrawn)]) (tys' := [(kM_r, .int)]) hB rfl ht hvm hP hD hK [0] [1] rfl (by decide) (by decide) [0] hk1 hFc rfl rfl rfl
    clear hz1 hk1 hvm ht hB
    rw [← hru9] at e_x_3206_0
    obtain ⟨x_3207, rfl⟩ : ∃ z, z = r := ⟨_, rfl⟩
    have hG := hG.trans (un2_eq e_x_3206_0)
    exact W.iret hx hb hr (fun t ht hW => ⟨⟨_, (cI x_3207), rfl, ⟨⟨trivial, trivial⟩, (cI_of x_3207)⟩, ⟨x_3197, x_3206, iM_firstRest, (cI_tup hG), Bw.to (hP.sub [1, 0] rfl) (hD.sub [1, 0] (by decide) rfl) (hK.sub [0] rfl) ht hW⟩⟩, hS.F ht⟩) hS.2.2 dX7_rest_25
  · skip
    have hG := hG.trans (lt_eq hru9.symm)
    have hG := hG.trans (if_neg (by decide))
    have hG := hG.trans (if_neg (by decide))
    refine lv_istore_n (lv' := [(2, .int 2), (0, .ref oM), (1, .int p0)]) hx hb dX7_rest_15 rfl hl (by decide) rfl (fun ls hl => ?_)
    refine lv_iload_n hx hb dX7_rest_16 rfl (lv_at hl 0 rfl) ?_
    refine lv_if_eq (tgt := 26) hx hb dX7_rest_17 (by decide) (fun c => absurd c (by decide)) (fun _ => ?_)
    refine lv_aload_n hx hb dX7_rest_20 rfl (lv_at hl 1 rfl) ?_
    refine lv_iload_n hx hb dX7_rest_21 rfl (lv_at hl 0 rfl) ?_
    have hFc := va_free (wc := [(oc7 oM x_3197 rM_tape iM_taped iM_size iM_at iM_end iM_token iM_whole iM_nameSize iM_fault iM_place x_3198 rM_letters iM_failed iM_hasCourt rM_r rM_fresh rM_told rM_read rM_st rM_undone rM_kept iM_undos iM_images rM_fresher iM_fresherSize iM_scale iM_night rM_heardRow rM_cutRow iM_breaths iM_cutMany iM_allBreaths rM_trial rM_words iM_fewestBreaths iM_orderMany iM_orderSum iM_leastOrder rM_often iM_setMany iM_someOf iM_allOf iM_allWeight iM_enoughWeight iM_worthSum iM_firstRest iM_leastDrawn)]) hD hS hA [0] rfl
    refine va_calli (va_runV (As := [.int 2]) (rest := []) ⟨hx, hb, hml, hown, hts⟩ (tX7_no l dC dI _ oM x_3197 rM_tape iM_taped iM_size iM_at iM_end iM_token iM_whole iM_nameSize iM_fault iM_place x_3198 rM_letters iM_failed iM_hasCourt rM_r rM_fresh rM_told rM_read rM_st rM_undone rM_kept iM_undos iM_images rM_fresher iM_fresherSize iM_scale iM_night rM_heardRow rM_cutRow iM_breaths iM_cutMany iM_allBreaths rM_trial rM_words iM_fewestBreaths iM_orderMany iM_orderSum iM_leastOrder rM_often iM_setMany iM_someOf iM_allOf iM_allWeight iM_enoughWeight iM_worthSum iM_firstRest iM_leastDrawn 2 (by first | omega | decide) (by first | omega | decide) (by first | omega | decide) (by first | omega | decide) (by first | omega | decide) (by first | omega | decide) (by first | omega | decide) (by first | omega | decide) (by first | omega | decide) (by first | omega | decide)) (cwV 1 hts (wd_V wd_396 wd_397 wd_398 wd_5 (wd_c wd_399)) rfl rfl rfl (by decide +kernel) ⟨Nat.le_of_ble_eq_true rfl, Nat.le_of_ble_eq_true rfl⟩) ⟨Pw.fb, va_recv hK hP (ci := 7) (q0 := 0) rfl rfl, fun U hU hW => Pw.to (hP.sub [0] rfl) (hD.sub [0] (by decide) rfl) (hK.sub [] rfl) hE hS hFc hU hW⟩ rfl rfl hl.1 rfl (lv_room (Nat.le_of_ble_eq_true rfl)) dX7_rest_22 ⟨Nat.le_of_ble_eq_true rfl, Nat.le_of_ble_eq_true rfl⟩) hS (fun q _ h => hFc q h) hFc (fun r u t H locs ht hvm hw hB hz1 hk1 hS => ?_)
    have hru9 := hw.2
    have hw := hw.1
    obtain ⟨x_3209, e_x_3209_0, hB⟩ := hB
    obtain ⟨hP, hD, hK⟩ := Bw.go (ws' := [(arI rM_r kM_r 287 fM_r), (oc7 oM x_3197 rM_tape iM_taped iM_size iM_at iM_end iM_token iM_whole iM_nameSize iM_fault iM_place x_3209 rM_letters iM_failed iM_hasCourt rM_r rM_fresh rM_told rM_read rM_st rM_undone rM_kept iM_undos iM_images rM_fresher iM_fresherSize iM_scale iM_night rM_heardRow rM_cutRow iM_breaths iM_cutMany iM_allBreaths rM_trial rM_words iM_fewestBreaths iM_orderMany iM_orderSum iM_leastOrder rM_often iM_setMany iM_someOf iM_allOf iM_allWeight iM_enoughWeight iM_worthSum iM_firstRest iM_leastDrawn)]) (tys' := [(kM_r, .int)]) hB rfl ht hvm hP hD hK [0] [1] rfl (by decide) (by decide) [0] hk1 hFc rfl rfl rfl
    clear hz1 hk1 hvm ht hB
    rw [← hru9] at e_x_3209_0
    obtain ⟨x_3210, rfl⟩ : ∃ z, z = r := ⟨_, rfl⟩
    have hG := hG.trans (un2_eq e_x_3209_0)
    exact W.iret hx hb hr (fun t ht hW => ⟨⟨_, (cI x_3210), rfl, ⟨⟨trivial, trivial⟩, (cI_of x_3210)⟩, ⟨x_3197, x_3209, iM_firstRest, (cI_tup hG), Bw.to (hP.sub [1, 0] rfl) (hD.sub [1, 0] (by decide) rfl) (hK.sub [0] rfl) ht hW⟩⟩, hS.F ht⟩) hS.2.2 dX7_rest_25
set_option maxHeartbeats 4000000 in
set_option maxRecDepth 100000 in
theorem tX7_fault (l : Launch) (dC : Nat → ClassId) (dI : Nat → Nat → Nat) (sz : Nat) (oM : Nat) (iM_thrown : Int32) (rM_tape : Nat) (iM_taped : Int32) (iM_size : Int32) (iM_at : Int32) (iM_end : Int32) (iM_token : Int32) (iM_whole : Int32) (iM_nameSize : Int32) (iM_fault : Int32) (iM_place : Int32) (iM_trouble : Int32) (rM_letters : Nat) (iM_failed : Int32) (iM_hasCourt : Int32) (rM_r : Nat) (rM_fresh : Nat) (rM_told : Nat) (rM_read : Nat) (rM_st : Nat) (rM_undone : Nat) (rM_kept : Nat) (iM_undos : Int32) (iM_images : Int32) (rM_fresher : Nat) (iM_fresherSize : Int32) (iM_scale : Int32) (iM_night : Int32) (rM_heardRow : Nat) (rM_cutRow : Nat) (iM_breaths : Int32) (iM_cutMany : Int32) (iM_allBreaths : Int32) (rM_trial : Nat) (rM_words : Nat) (iM_fewestBreaths : Int32) (iM_orderMany : Int32) (iM_orderSum : Int32) (iM_leastOrder : Int32) (rM_often : Nat) (iM_setMany : Int32) (iM_someOf : Int32) (iM_allOf : Int32) (iM_allWeight : Int64) (iM_enoughWeight : Int64) (iM_worthSum : Int64) (iM_firstRest : Int32) (iM_leastDrawn : Int32) (b_iM_taped : 0 ≤ iM_taped.toInt ∧ iM_taped.toInt ≤ 900) (b_iM_size : 0 ≤ iM_size.toInt ∧ iM_size.toInt ≤ 900) (b_iM_end : 0 ≤ iM_end.toInt ∧ iM_end.toInt ≤ 900) (b_iM_failed : 0 ≤ iM_failed.toInt ∧ iM_failed.toInt ≤ 1) (b_iM_hasCourt : 0 ≤ iM_hasCourt.toInt ∧ iM_hasCourt.toInt ≤ 1) (b_iM_undos : 0 ≤ iM_undos.toInt ∧ iM_undos.toInt ≤ 16) (b_iM_images : 0 ≤ iM_images.toInt ∧ iM_images.toInt ≤ 3) (b_iM_scale : 1 ≤ iM_scale.toInt ∧ iM_scale.toInt ≤ 1296) (b_iM_breaths : 0 ≤ iM_breaths.toInt ∧ iM_breaths.toInt ≤ 399) (b_iM_cutMany : 0 ≤ iM_cutMany.toInt ∧ iM_cutMany.toInt ≤ 399)  : Met l yX7_fault (Cond.code yX7_fault cX7_fault 1 (some .int) :: wG) ({ frames := 0, cells := 0, slots := 0, locals := 0 }) (va_Pc [.ref oM] (Pw dC dI sz [(oc7 oM iM_thrown rM_tape iM_taped iM_size iM_at iM_end iM_token iM_whole iM_nameSize iM_fault iM_place iM_trouble rM_letters iM_failed iM_hasCourt rM_r rM_fresh rM_told rM_read rM_st rM_undone rM_kept iM_undos iM_images rM_fresher iM_fresherSize iM_scale iM_night rM_heardRow rM_cutRow iM_breaths iM_cutMany iM_allBreaths rM_trial rM_words iM_fewestBreaths iM_orderMany iM_orderSum iM_leastOrder rM_often iM_setMany iM_someOf iM_allOf iM_allWeight iM_enoughWeight iM_worthSum iM_firstRest iM_leastDrawn)] [])) (va_Qi (fun (r : Int32) (u : Nat) => (True ∧ True) ∧ r = Int32.ofNat u) (fun (u : Nat) (t : State) => ∃ (niM_thrown : Int32), (0 ≤ niM_thrown.toInt ∧ niM_thrown.toInt ≤ 0) ∧ (PX7_fault iM_fault = (Int32.ofNat u, niM_thrown)) ∧ Bw dC dI (va_A [(oc7 oM iM_thrown rM_tape iM_taped iM_size iM_at iM_end iM_token iM_whole iM_nameSize iM_fault iM_place iM_trouble rM_letters iM_failed iM_hasCourt rM_r rM_fresh rM_told rM_read rM_st rM_undone rM_kept iM_undos iM_images rM_fresher iM_fresherSize iM_scale iM_night rM_heardRow rM_cutRow iM_breaths iM_cutMany iM_allBreaths rM_trial rM_words iM_fewestBreaths iM_orderMany iM_orderSum iM_leastOrder rM_often iM_setMany iM_someOf iM_allOf iM_allWeight iM_enoughWeight iM_worthSum iM_firstRest iM_leastDrawn)] sz) [(oc7 oM niM_thrown rM_tape iM_taped iM_size iM_at iM_end iM_token iM_whole iM_nameSize iM_fault iM_place iM_trouble rM_letters iM_failed iM_hasCourt rM_r rM_fresh rM_told rM_read rM_st rM_undone rM_kept iM_undos iM_images rM_fresher iM_fresherSize iM_scale iM_night rM_heardRow rM_cutRow iM_breaths iM_cutMany iM_allBreaths rM_trial rM_words iM_fewestBreaths iM_orderMany iM_orderSum iM_leastOrder rM_often iM_setMany iM_someOf iM_allOf iM_allWeight iM_enoughWeight iM_worthSum iM_firstRest iM_leastDrawn)] [] t) (va_A [(oc7 oM iM_thrown rM_tape iM_taped iM_size iM_at iM_end iM_token iM_whole iM_nameSize iM_fault iM_place iM_trouble rM_letters iM_failed iM_hasCourt rM_r rM_fresh rM_told rM_read rM_st rM_undone rM_kept iM_undos iM_images rM_fresher iM_fresherSize iM_scale iM_night rM_heardRow rM_cutRow iM_breaths iM_cutMany iM_allBreaths rM_trial rM_words iM_fewestBreaths iM_orderMany iM_orderSum iM_leastOrder rM_often iM_setMany iM_someOf iM_allOf iM_allWeight iM_enoughWeight iM_worthSum iM_firstRest iM_leastDrawn)] sz)) 0 0 (va_A [(oc7 oM iM_thrown rM_tape iM_taped iM_size iM_at iM_end iM_token iM_whole iM_nameSize iM_fault iM_place iM_trouble rM_letters iM_failed iM_hasCourt rM_r rM_fresh rM_told rM_read rM_st rM_undone rM_kept iM_undos iM_images rM_fresher iM_fresherSize iM_scale iM_night rM_heardRow rM_cutRow iM_breaths iM_cutMany iM_allBreaths rM_trial rM_words iM_fewestBreaths iM_orderMany iM_orderSum iM_leastOrder rM_often iM_setMany iM_someOf iM_allOf iM_allWeight iM_enoughWeight iM_worthSum iM_firstRest iM_leastDrawn)] sz) := by
  refine Met.ofW (cc := cX7_fault) (maxL := 1) (ret := (some .int)) (by decide) rfl ?_
  intro p e s m args below meth c s₁ B hml hv
  obtain ⟨rfl, hsz, hP, hK, hD0, hE⟩ := hv
  have hx := B.exec
  have hb := B.bytes
  have hr := B.returns
  have hts : ∀ w ∈ wG, w.before ([.ref oM] : List Value).toArray s = true := fun w h => atoms_spec (ws := Cond.code yX7_fault cX7_fault 1 (some .int) :: wG) B.pre w (List.mem_cons_of_mem _ h)
  have hown : s.vm.findClass RX7 = some m.cls := findClass_of_methodNamed B.named
  have hlocks := B.notSynchronized
  subst hsz
  have hD := hD0.self (sz := s.heap.size)
  generalize hAe : va_A [(oc7 oM iM_thrown rM_tape iM_taped iM_size iM_at iM_end iM_token iM_whole iM_nameSize iM_fault iM_place iM_trouble rM_letters iM_failed iM_hasCourt rM_r rM_fresh rM_told rM_read rM_st rM_undone rM_kept iM_undos iM_images rM_fresher iM_fresherSize iM_scale iM_night rM_heardRow rM_cutRow iM_breaths iM_cutMany iM_allBreaths rM_trial rM_words iM_fewestBreaths iM_orderMany iM_orderSum iM_leastOrder rM_often iM_setMany iM_someOf iM_allOf iM_allWeight iM_enoughWeight iM_worthSum iM_firstRest iM_leastDrawn)] s.heap.size = A at hD hE ⊢
  have hA : ∀ q : Nat, s.heap.size ≤ q → A q := fun q h => by rw [← hAe]; exact Or.inr h
  have hS : va_S A s.heap s.heap [] := va_S.rf
  have hl := lv_entry ([.ref oM]) (n := 1) (Nat.le_of_ble_eq_true rfl)
  rw [lg_entry_eq]
  generalize (lg_sl ([.ref oM]) ++ List.replicate (1 - (lg_sl ([.ref oM])).length) Slot.unset).toArray = ls at hl ⊢
  have hl : lv_has ls 1 [(0, .ref oM)] := hl
  have hG := PX7_fault_eq iM_fault
  refine lv_aload_n hx hb dX7_fault_0 rfl (lv_at hl 0 rfl) ?_
  refine lv_iconst (v := 0) hx hb dX7_fault_1 (by decide) ?_
  refine va_put (D := (dC, dI)) (ci := 7) (v := .int 0) (ty := .int) (C := RX7) (T := TX7) (N := 48) hx hb hts inX7 tyX7 tyX7_ok nmX7 hown hK hP hD hS 0 rfl rfl 0 (by decide) (hts _ wd_184) (fun _ h9 => h9) rfl (by decide +kernel) rfl rfl (Nat.le_of_ble_eq_true rfl) dX7_fault_2 (fun H locs hP hD hS => ?_)
  obtain ⟨hP, hD⟩ := wl2 (ws' := [(oc7 oM 0 rM_tape iM_taped iM_size iM_at iM_end iM_token iM_whole iM_nameSize iM_fault iM_place iM_trouble rM_letters iM_failed iM_hasCourt rM_r rM_fresh rM_told rM_read rM_st rM_undone rM_kept iM_undos iM_images rM_fresher iM_fresherSize iM_scale iM_night rM_heardRow rM_cutRow iM_breaths iM_cutMany iM_allBreaths rM_trial rM_words iM_fewestBreaths iM_orderMany iM_orderSum iM_leastOrder rM_often iM_setMany iM_someOf iM_allOf iM_allWeight iM_enoughWeight iM_worthSum iM_firstRest iM_leastDrawn)]) hP hD rfl
  refine lv_aload_n hx hb dX7_fault_5 rfl (lv_at hl 0 rfl) ?_
  refine va_get (D := (dC, dI)) (ci := 7) (v := .int iM_fault) (C := RX7) (T := TX7) (N := 48) hx hb hts inX7 hown hK hP 0 rfl rfl 9 (by decide) (hts _ wd_379) (fun _ h9 => h9) rfl dX7_fault_6 ?_
  exact W.iret hx hb hr (fun t ht hW => ⟨⟨_, (cI iM_fault), rfl, ⟨⟨trivial, trivial⟩, (cI_of iM_fault)⟩, ⟨0, (by decide), (cI_tup hG), Bw.to (hP.sub [0] rfl) (hD.sub [0] (by decide) rfl) (hK.sub [] rfl) ht hW⟩⟩, hS.F ht⟩) hS.2.2 dX7_fault_9
set_option maxHeartbeats 4000000 in
set_option maxRecDepth 100000 in
theorem tX7_where (l : Launch) (dC : Nat → ClassId) (dI : Nat → Nat → Nat) (sz : Nat) (oM : Nat) (iM_thrown : Int32) (rM_tape : Nat) (iM_taped : Int32) (iM_size : Int32) (iM_at : Int32) (iM_end : Int32) (iM_token : Int32) (iM_whole : Int32) (iM_nameSize : Int32) (iM_fault : Int32) (iM_place : Int32) (iM_trouble : Int32) (rM_letters : Nat) (iM_failed : Int32) (iM_hasCourt : Int32) (rM_r : Nat) (rM_fresh : Nat) (rM_told : Nat) (rM_read : Nat) (rM_st : Nat) (rM_undone : Nat) (rM_kept : Nat) (iM_undos : Int32) (iM_images : Int32) (rM_fresher : Nat) (iM_fresherSize : Int32) (iM_scale : Int32) (iM_night : Int32) (rM_heardRow : Nat) (rM_cutRow : Nat) (iM_breaths : Int32) (iM_cutMany : Int32) (iM_allBreaths : Int32) (rM_trial : Nat) (rM_words : Nat) (iM_fewestBreaths : Int32) (iM_orderMany : Int32) (iM_orderSum : Int32) (iM_leastOrder : Int32) (rM_often : Nat) (iM_setMany : Int32) (iM_someOf : Int32) (iM_allOf : Int32) (iM_allWeight : Int64) (iM_enoughWeight : Int64) (iM_worthSum : Int64) (iM_firstRest : Int32) (iM_leastDrawn : Int32) (b_iM_taped : 0 ≤ iM_taped.toInt ∧ iM_taped.toInt ≤ 900) (b_iM_size : 0 ≤ iM_size.toInt ∧ iM_size.toInt ≤ 900) (b_iM_end : 0 ≤ iM_end.toInt ∧ iM_end.toInt ≤ 900) (b_iM_failed : 0 ≤ iM_failed.toInt ∧ iM_failed.toInt ≤ 1) (b_iM_hasCourt : 0 ≤ iM_hasCourt.toInt ∧ iM_hasCourt.toInt ≤ 1) (b_iM_undos : 0 ≤ iM_undos.toInt ∧ iM_undos.toInt ≤ 16) (b_iM_images : 0 ≤ iM_images.toInt ∧ iM_images.toInt ≤ 3) (b_iM_scale : 1 ≤ iM_scale.toInt ∧ iM_scale.toInt ≤ 1296) (b_iM_breaths : 0 ≤ iM_breaths.toInt ∧ iM_breaths.toInt ≤ 399) (b_iM_cutMany : 0 ≤ iM_cutMany.toInt ∧ iM_cutMany.toInt ≤ 399)  : Met l yX7_where (Cond.code yX7_where cX7_where 1 (some .int) :: wG) ({ frames := 0, cells := 0, slots := 0, locals := 0 }) (va_Pc [.ref oM] (Pw dC dI sz [(oc7 oM iM_thrown rM_tape iM_taped iM_size iM_at iM_end iM_token iM_whole iM_nameSize iM_fault iM_place iM_trouble rM_letters iM_failed iM_hasCourt rM_r rM_fresh rM_told rM_read rM_st rM_undone rM_kept iM_undos iM_images rM_fresher iM_fresherSize iM_scale iM_night rM_heardRow rM_cutRow iM_breaths iM_cutMany iM_allBreaths rM_trial rM_words iM_fewestBreaths iM_orderMany iM_orderSum iM_leastOrder rM_often iM_setMany iM_someOf iM_allOf iM_allWeight iM_enoughWeight iM_worthSum iM_firstRest iM_leastDrawn)] [])) (va_Qi (fun (r : Int32) (u : Nat) => (True ∧ True) ∧ r = Int32.ofNat u) (fun (u : Nat) (t : State) => ∃ (niM_thrown : Int32), (0 ≤ niM_thrown.toInt ∧ niM_thrown.toInt ≤ 0) ∧ (PX7_where iM_place iM_trouble = (Int32.ofNat u, niM_thrown)) ∧ Bw dC dI (va_A [(oc7 oM iM_thrown rM_tape iM_taped iM_size iM_at iM_end iM_token iM_whole iM_nameSize iM_fault iM_place iM_trouble rM_letters iM_failed iM_hasCourt rM_r rM_fresh rM_told rM_read rM_st rM_undone rM_kept iM_undos iM_images rM_fresher iM_fresherSize iM_scale iM_night rM_heardRow rM_cutRow iM_breaths iM_cutMany iM_allBreaths rM_trial rM_words iM_fewestBreaths iM_orderMany iM_orderSum iM_leastOrder rM_often iM_setMany iM_someOf iM_allOf iM_allWeight iM_enoughWeight iM_worthSum iM_firstRest iM_leastDrawn)] sz) [(oc7 oM niM_thrown rM_tape iM_taped iM_size iM_at iM_end iM_token iM_whole iM_nameSize iM_fault iM_place iM_trouble rM_letters iM_failed iM_hasCourt rM_r rM_fresh rM_told rM_read rM_st rM_undone rM_kept iM_undos iM_images rM_fresher iM_fresherSize iM_scale iM_night rM_heardRow rM_cutRow iM_breaths iM_cutMany iM_allBreaths rM_trial rM_words iM_fewestBreaths iM_orderMany iM_orderSum iM_leastOrder rM_often iM_setMany iM_someOf iM_allOf iM_allWeight iM_enoughWeight iM_worthSum iM_firstRest iM_leastDrawn)] [] t) (va_A [(oc7 oM iM_thrown rM_tape iM_taped iM_size iM_at iM_end iM_token iM_whole iM_nameSize iM_fault iM_place iM_trouble rM_letters iM_failed iM_hasCourt rM_r rM_fresh rM_told rM_read rM_st rM_undone rM_kept iM_undos iM_images rM_fresher iM_fresherSize iM_scale iM_night rM_heardRow rM_cutRow iM_breaths iM_cutMany iM_allBreaths rM_trial rM_words iM_fewestBreaths iM_orderMany iM_orderSum iM_leastOrder rM_often iM_setMany iM_someOf iM_allOf iM_allWeight iM_enoughWeight iM_worthSum iM_firstRest iM_leastDrawn)] sz)) 0 0 (va_A [(oc7 oM iM_thrown rM_tape iM_taped iM_size iM_at iM_end iM_token iM_whole iM_nameSize iM_fault iM_place iM_trouble rM_letters iM_failed iM_hasCourt rM_r rM_fresh rM_told rM_read rM_st rM_undone rM_kept iM_undos iM_images rM_fresher iM_fresherSize iM_scale iM_night rM_heardRow rM_cutRow iM_breaths iM_cutMany iM_allBreaths rM_trial rM_words iM_fewestBreaths iM_orderMany iM_orderSum iM_leastOrder rM_often iM_setMany iM_someOf iM_allOf iM_allWeight iM_enoughWeight iM_worthSum iM_firstRest iM_leastDrawn)] sz) := by
  refine Met.ofW (cc := cX7_where) (maxL := 1) (ret := (some .int)) (by decide) rfl ?_
  intro p e s m args below meth c s₁ B hml hv
  obtain ⟨rfl, hsz, hP, hK, hD0, hE⟩ := hv
  have hx := B.exec
  have hb := B.bytes
  have hr := B.returns
  have hts : ∀ w ∈ wG, w.before ([.ref oM] : List Value).toArray s = true := fun w h => atoms_spec (ws := Cond.code yX7_where cX7_where 1 (some .int) :: wG) B.pre w (List.mem_cons_of_mem _ h)
  have hown : s.vm.findClass RX7 = some m.cls := findClass_of_methodNamed B.named
  have hlocks := B.notSynchronized
  subst hsz
  have hD := hD0.self (sz := s.heap.size)
  generalize hAe : va_A [(oc7 oM iM_thrown rM_tape iM_taped iM_size iM_at iM_end iM_token iM_whole iM_nameSize iM_fault iM_place iM_trouble rM_letters iM_failed iM_hasCourt rM_r rM_fresh rM_told rM_read rM_st rM_undone rM_kept iM_undos iM_images rM_fresher iM_fresherSize iM_scale iM_night rM_heardRow rM_cutRow iM_breaths iM_cutMany iM_allBreaths rM_trial rM_words iM_fewestBreaths iM_orderMany iM_orderSum iM_leastOrder rM_often iM_setMany iM_someOf iM_allOf iM_allWeight iM_enoughWeight iM_worthSum iM_firstRest iM_leastDrawn)] s.heap.size = A at hD hE ⊢
  have hA : ∀ q : Nat, s.heap.size ≤ q → A q := fun q h => by rw [← hAe]; exact Or.inr h
  have hS : va_S A s.heap s.heap [] := va_S.rf
  have hl := lv_entry ([.ref oM]) (n := 1) (Nat.le_of_ble_eq_true rfl)
  rw [lg_entry_eq]
  generalize (lg_sl ([.ref oM]) ++ List.replicate (1 - (lg_sl ([.ref oM])).length) Slot.unset).toArray = ls at hl ⊢
  have hl : lv_has ls 1 [(0, .ref oM)] := hl
  have hG := PX7_where_eq iM_place iM_trouble
  refine lv_aload_n hx hb dX7_where_0 rfl (lv_at hl 0 rfl) ?_
  refine lv_iconst (v := 0) hx hb dX7_where_1 (by decide) ?_
  refine va_put (D := (dC, dI)) (ci := 7) (v := .int 0) (ty := .int) (C := RX7) (T := TX7) (N := 48) hx hb hts inX7 tyX7 tyX7_ok nmX7 hown hK hP hD hS 0 rfl rfl 0 (by decide) (hts _ wd_184) (fun _ h9 => h9) rfl (by decide +kernel) rfl rfl (Nat.le_of_ble_eq_true rfl) dX7_where_2 (fun H locs hP hD hS => ?_)
  obtain ⟨hP, hD⟩ := wl2 (ws' := [(oc7 oM 0 rM_tape iM_taped iM_size iM_at iM_end iM_token iM_whole iM_nameSize iM_fault iM_place iM_trouble rM_letters iM_failed iM_hasCourt rM_r rM_fresh rM_told rM_read rM_st rM_undone rM_kept iM_undos iM_images rM_fresher iM_fresherSize iM_scale iM_night rM_heardRow rM_cutRow iM_breaths iM_cutMany iM_allBreaths rM_trial rM_words iM_fewestBreaths iM_orderMany iM_orderSum iM_leastOrder rM_often iM_setMany iM_someOf iM_allOf iM_allWeight iM_enoughWeight iM_worthSum iM_firstRest iM_leastDrawn)]) hP hD rfl
  refine lv_aload_n hx hb dX7_where_5 rfl (lv_at hl 0 rfl) ?_
  refine va_get (D := (dC, dI)) (ci := 7) (v := .int iM_trouble) (C := RX7) (T := TX7) (N := 48) hx hb hts inX7 hown hK hP 0 rfl rfl 11 (by decide) (hts _ wd_392) (fun _ h9 => h9) rfl dX7_where_6 ?_
  refine lv_iconst (v := 4) hx hb dX7_where_9 (by decide) ?_
  refine lv_icmp_ne (tgt := 20) hx hb dX7_where_10 (by decide) (fun c_3212 => ?_) (fun c_3212 => ?_)
  · skip
    have hG := hG.trans (if_neg c_3212)
    have gc_3212 := ti_ne c_3212 rfl kc_4
    refine lv_iconst (v := (-1)) hx hb dX7_where_20 (by decide) ?_
    exact W.iret hx hb hr (fun t ht hW => ⟨⟨_, (cI (-1)), rfl, ⟨⟨trivial, trivial⟩, (cI_of (-1))⟩, ⟨0, (by decide), (cI_tup hG), Bw.to (hP.sub [0] rfl) (hD.sub [0] (by decide) rfl) (hK.sub [] rfl) ht hW⟩⟩, hS.F ht⟩) hS.2.2 dX7_where_21
  · skip
    have hG := hG.trans (if_pos c_3212)
    have gc_3212 := ti_eq c_3212 rfl kc_4
    refine lv_aload_n hx hb dX7_where_13 rfl (lv_at hl 0 rfl) ?_
    refine va_get (D := (dC, dI)) (ci := 7) (v := .int iM_place) (C := RX7) (T := TX7) (N := 48) hx hb hts inX7 hown hK hP 0 rfl rfl 10 (by decide) (hts _ wd_153) (fun _ h9 => h9) rfl dX7_where_14 ?_
    refine lv_goto (tgt := 21) hx hb dX7_where_17 (by decide) ?_
    exact W.iret hx hb hr (fun t ht hW => ⟨⟨_, (cI iM_place), rfl, ⟨⟨trivial, trivial⟩, (cI_of iM_place)⟩, ⟨0, (by decide), (cI_tup hG), Bw.to (hP.sub [0] rfl) (hD.sub [0] (by decide) rfl) (hK.sub [] rfl) ht hW⟩⟩, hS.F ht⟩) hS.2.2 dX7_where_21
set_option maxHeartbeats 4000000 in
set_option maxRecDepth 100000 in
theorem tX7_size (l : Launch) (dC : Nat → ClassId) (dI : Nat → Nat → Nat) (sz : Nat) (oM : Nat) (iM_thrown : Int32) (rM_tape : Nat) (iM_taped : Int32) (iM_size : Int32) (iM_at : Int32) (iM_end : Int32) (iM_token : Int32) (iM_whole : Int32) (iM_nameSize : Int32) (iM_fault : Int32) (iM_place : Int32) (iM_trouble : Int32) (rM_letters : Nat) (iM_failed : Int32) (iM_hasCourt : Int32) (rM_r : Nat) (fM_r : Nat → Int32) (kM_r : ClassId) (rM_fresh : Nat) (rM_told : Nat) (rM_read : Nat) (rM_st : Nat) (rM_undone : Nat) (rM_kept : Nat) (iM_undos : Int32) (iM_images : Int32) (rM_fresher : Nat) (iM_fresherSize : Int32) (iM_scale : Int32) (iM_night : Int32) (rM_heardRow : Nat) (rM_cutRow : Nat) (iM_breaths : Int32) (iM_cutMany : Int32) (iM_allBreaths : Int32) (rM_trial : Nat) (rM_words : Nat) (iM_fewestBreaths : Int32) (iM_orderMany : Int32) (iM_orderSum : Int32) (iM_leastOrder : Int32) (rM_often : Nat) (iM_setMany : Int32) (iM_someOf : Int32) (iM_allOf : Int32) (iM_allWeight : Int64) (iM_enoughWeight : Int64) (iM_worthSum : Int64) (iM_firstRest : Int32) (iM_leastDrawn : Int32) (p0 : Int32) (b_iM_taped : 0 ≤ iM_taped.toInt ∧ iM_taped.toInt ≤ 900) (b_iM_size : 0 ≤ iM_size.toInt ∧ iM_size.toInt ≤ 900) (b_iM_end : 0 ≤ iM_end.toInt ∧ iM_end.toInt ≤ 900) (b_iM_failed : 0 ≤ iM_failed.toInt ∧ iM_failed.toInt ≤ 1) (b_iM_hasCourt : 0 ≤ iM_hasCourt.toInt ∧ iM_hasCourt.toInt ≤ 1) (b_iM_undos : 0 ≤ iM_undos.toInt ∧ iM_undos.toInt ≤ 16) (b_iM_images : 0 ≤ iM_images.toInt ∧ iM_images.toInt ≤ 3) (b_iM_scale : 1 ≤ iM_scale.toInt ∧ iM_scale.toInt ≤ 1296) (b_iM_breaths : 0 ≤ iM_breaths.toInt ∧ iM_breaths.toInt ≤ 399) (b_iM_cutMany : 0 ≤ iM_cutMany.toInt ∧ iM_cutMany.toInt ≤ 399) (r_R : ROk fM_r) (r_C : iM_hasCourt.toInt ≤ 0 ∨ (1 ≤ (fM_r 1).toInt ∧ 0 ≤ (fM_r 6).toInt ∧ (fM_r 6).toInt < (fM_r 1).toInt))  : Met l yX7_size (Cond.code yX7_size cX7_size 2 (some .int) :: wG) ({ frames := 1, cells := 0, slots := 0, locals := 22 }) (va_Pc [.ref oM, .int p0] (Pw dC dI sz [(oc7 oM iM_thrown rM_tape iM_taped iM_size iM_at iM_end iM_token iM_whole iM_nameSize iM_fault iM_place iM_trouble rM_letters iM_failed iM_hasCourt rM_r rM_fresh rM_told rM_read rM_st rM_undone rM_kept iM_undos iM_images rM_fresher iM_fresherSize iM_scale iM_night rM_heardRow rM_cutRow iM_breaths iM_cutMany iM_allBreaths rM_trial rM_words iM_fewestBreaths iM_orderMany iM_orderSum iM_leastOrder rM_often iM_setMany iM_someOf iM_allOf iM_allWeight iM_enoughWeight iM_worthSum iM_firstRest iM_leastDrawn), (arI rM_r kM_r 287 fM_r)] [(kM_r, .int)])) (va_Qi (fun (r : Int32) (u : Nat) => (True ∧ True) ∧ r = Int32.ofNat u) (fun (u : Nat) (t : State) => ∃ (niM_thrown : Int32), (0 ≤ niM_thrown.toInt ∧ niM_thrown.toInt ≤ 0) ∧ (PX7_size iM_taped iM_hasCourt fM_r iM_undos iM_images p0 = (Int32.ofNat u, niM_thrown)) ∧ Bw dC dI (va_A [(oc7 oM iM_thrown rM_tape iM_taped iM_size iM_at iM_end iM_token iM_whole iM_nameSize iM_fault iM_place iM_trouble rM_letters iM_failed iM_hasCourt rM_r rM_fresh rM_told rM_read rM_st rM_undone rM_kept iM_undos iM_images rM_fresher iM_fresherSize iM_scale iM_night rM_heardRow rM_cutRow iM_breaths iM_cutMany iM_allBreaths rM_trial rM_words iM_fewestBreaths iM_orderMany iM_orderSum iM_leastOrder rM_often iM_setMany iM_someOf iM_allOf iM_allWeight iM_enoughWeight iM_worthSum iM_firstRest iM_leastDrawn), (arI rM_r kM_r 287 fM_r)] sz) [(oc7 oM niM_thrown rM_tape iM_taped iM_size iM_at iM_end iM_token iM_whole iM_nameSize iM_fault iM_place iM_trouble rM_letters iM_failed iM_hasCourt rM_r rM_fresh rM_told rM_read rM_st rM_undone rM_kept iM_undos iM_images rM_fresher iM_fresherSize iM_scale iM_night rM_heardRow rM_cutRow iM_breaths iM_cutMany iM_allBreaths rM_trial rM_words iM_fewestBreaths iM_orderMany iM_orderSum iM_leastOrder rM_often iM_setMany iM_someOf iM_allOf iM_allWeight iM_enoughWeight iM_worthSum iM_firstRest iM_leastDrawn), (arI rM_r kM_r 287 fM_r)] [(kM_r, .int)] t) (va_A [(oc7 oM iM_thrown rM_tape iM_taped iM_size iM_at iM_end iM_token iM_whole iM_nameSize iM_fault iM_place iM_trouble rM_letters iM_failed iM_hasCourt rM_r rM_fresh rM_told rM_read rM_st rM_undone rM_kept iM_undos iM_images rM_fresher iM_fresherSize iM_scale iM_night rM_heardRow rM_cutRow iM_breaths iM_cutMany iM_allBreaths rM_trial rM_words iM_fewestBreaths iM_orderMany iM_orderSum iM_leastOrder rM_often iM_setMany iM_someOf iM_allOf iM_allWeight iM_enoughWeight iM_worthSum iM_firstRest iM_leastDrawn), (arI rM_r kM_r 287 fM_r)] sz)) 0 0 (va_A [(oc7 oM iM_thrown rM_tape iM_taped iM_size iM_at iM_end iM_token iM_whole iM_nameSize iM_fault iM_place iM_trouble rM_letters iM_failed iM_hasCourt rM_r rM_fresh rM_told rM_read rM_st rM_undone rM_kept iM_undos iM_images rM_fresher iM_fresherSize iM_scale iM_night rM_heardRow rM_cutRow iM_breaths iM_cutMany iM_allBreaths rM_trial rM_words iM_fewestBreaths iM_orderMany iM_orderSum iM_leastOrder rM_often iM_setMany iM_someOf iM_allOf iM_allWeight iM_enoughWeight iM_worthSum iM_firstRest iM_leastDrawn), (arI rM_r kM_r 287 fM_r)] sz) := by
  refine Met.ofW (cc := cX7_size) (maxL := 2) (ret := (some .int)) (by decide) rfl ?_
  intro p e s m args below meth c s₁ B hml hv
  obtain ⟨rfl, hsz, hP, hK, hD0, hE⟩ := hv
  have hx := B.exec
  have hb := B.bytes
  have hr := B.returns
  have hts : ∀ w ∈ wG, w.before ([.ref oM, .int p0] : List Value).toArray s = true := fun w h => atoms_spec (ws := Cond.code yX7_size cX7_size 2 (some .int) :: wG) B.pre w (List.mem_cons_of_mem _ h)
  have hown : s.vm.findClass RX7 = some m.cls := findClass_of_methodNamed B.named
  have hlocks := B.notSynchronized
  subst hsz
  have hD := hD0.self (sz := s.heap.size)
  generalize hAe : va_A [(oc7 oM iM_thrown rM_tape iM_taped iM_size iM_at iM_end iM_token iM_whole iM_nameSize iM_fault iM_place iM_trouble rM_letters iM_failed iM_hasCourt rM_r rM_fresh rM_told rM_read rM_st rM_undone rM_kept iM_undos iM_images rM_fresher iM_fresherSize iM_scale iM_night rM_heardRow rM_cutRow iM_breaths iM_cutMany iM_allBreaths rM_trial rM_words iM_fewestBreaths iM_orderMany iM_orderSum iM_leastOrder rM_often iM_setMany iM_someOf iM_allOf iM_allWeight iM_enoughWeight iM_worthSum iM_firstRest iM_leastDrawn), (arI rM_r kM_r 287 fM_r)] s.heap.size = A at hD hE ⊢
  have hA : ∀ q : Nat, s.heap.size ≤ q → A q := fun q h => by rw [← hAe]; exact Or.inr h
  have hS : va_S A s.heap s.heap [] := va_S.rf
  have hl := lv_entry ([.ref oM, .int p0]) (n := 2) (Nat.le_of_ble_eq_true rfl)
  rw [lg_entry_eq]
  generalize (lg_sl ([.ref oM, .int p0]) ++ List.replicate (2 - (lg_sl ([.ref oM, .int p0])).length) Slot.unset).toArray = ls at hl ⊢
  have hl : lv_has ls 2 [(0, .ref oM), (1, .int p0)] := hl
  have hG := PX7_size_eq iM_taped iM_hasCourt fM_r iM_undos iM_images p0
  have s_slips := r_R.slips
  have s_nodes := r_R.nodes
  have s_uns := r_R.uns
  refine lv_aload_n hx hb dX7_size_0 rfl (lv_at hl 0 rfl) ?_
  refine lv_iconst (v := 0) hx hb dX7_size_1 (by decide) ?_
  refine va_put (D := (dC, dI)) (ci := 7) (v := .int 0) (ty := .int) (C := RX7) (T := TX7) (N := 48) hx hb hts inX7 tyX7 tyX7_ok nmX7 hown hK hP hD hS 0 rfl rfl 0 (by decide) (hts _ wd_184) (fun _ h9 => h9) rfl (by decide +kernel) rfl rfl (Nat.le_of_ble_eq_true rfl) dX7_size_2 (fun H locs hP hD hS => ?_)
  obtain ⟨hP, hD⟩ := wl2 (ws' := [(oc7 oM 0 rM_tape iM_taped iM_size iM_at iM_end iM_token iM_whole iM_nameSize iM_fault iM_place iM_trouble rM_letters iM_failed iM_hasCourt rM_r rM_fresh rM_told rM_read rM_st rM_undone rM_kept iM_undos iM_images rM_fresher iM_fresherSize iM_scale iM_night rM_heardRow rM_cutRow iM_breaths iM_cutMany iM_allBreaths rM_trial rM_words iM_fewestBreaths iM_orderMany iM_orderSum iM_leastOrder rM_often iM_setMany iM_someOf iM_allOf iM_allWeight iM_enoughWeight iM_worthSum iM_firstRest iM_leastDrawn), (arI rM_r kM_r 287 fM_r)]) hP hD rfl
  refine lv_iload_n hx hb dX7_size_5 rfl (lv_at hl 1 rfl) ?_
  refine lv_bipush (v := 7) hx hb dX7_size_6 (by decide) ?_
  refine lv_icmp_ne (tgt := 16) hx hb dX7_size_8 (by decide) (fun c_3231 => ?_) (fun c_3231 => ?_)
  · skip
    have hG := hG.trans (if_neg c_3231)
    have gc_3231 := ti_ne c_3231 rfl kc_7
    refine lv_aload_n hx hb dX7_size_16 rfl (lv_at hl 0 rfl) ?_
    rcases (id r_C) with r_C0 | r_C1
    · skip
      refine va_get (D := (dC, dI)) (ci := 7) (v := .int iM_hasCourt) (C := RX7) (T := TX7) (N := 48) hx hb hts inX7 hown hK hP 0 rfl rfl 14 (by decide) (hts _ wd_385) (fun _ h9 => h9) rfl dX7_size_17 ?_
      refine lv_if_ne (tgt := 39) hx hb dX7_size_20 (by decide) (fun c_3232 => ?_) (fun c_3232 => ?_)
      · skip
        have hG := hG.trans (if_neg c_3232)
        have gc_3232 := ti_ne c_3232 rfl kc_0
        exfalso; clear hG; omega
      · skip
        have hG := hG.trans (if_pos c_3232)
        have gc_3232 := ti_eq c_3232 rfl kc_0
        refine lv_iload_n hx hb dX7_size_23 rfl (lv_at hl 1 rfl) ?_
        refine lv_iconst (v := 0) hx hb dX7_size_24 (by decide) ?_
        refine lv_bipush (v := 6) hx hb dX7_size_25 (by decide) ?_
        have hFc : ∀ q, va_A [] _ q → A q := fun q h => hA q (Nat.le_trans hS.1 (va_nilA h))
        refine va_calli (va_runS (As := [.int p0, .int 0, .int 6]) (rest := []) ⟨hx, hb, hml, hown, hts⟩ (tX7_in l dC dI _ p0 0 6 ) (va_cwS 3 hts (wd_S wd_393 wd_394 wd_5 (wd_c wd_395)) rfl rfl rfl (by decide +kernel) ⟨Nat.le_of_ble_eq_true rfl, Nat.le_of_ble_eq_true rfl⟩) ⟨Pw.fb, fun U hU hW => Pn.to hK hE hS hA hU hW⟩ rfl rfl hl.1 rfl (lv_room (Nat.le_of_ble_eq_true rfl)) dX7_size_27 ⟨Nat.le_of_ble_eq_true rfl, Nat.le_of_ble_eq_true rfl⟩) hS (fun q _ h => hFc q h) hFc (fun r u t H locs ht hvm hw hB hz1 hk1 hS => ?_)
        obtain ⟨hP, hD, hK⟩ := Bw.same ht hvm hP hD hK hk1 hFc
        clear hz1 hk1 hvm ht hB
        have hq9 := hw.2
        have hw := hw.1
        obtain ⟨x_3233, rfl⟩ : ∃ z, z = r := ⟨_, rfl⟩
        have hq_x_3233 := hq9
        have hG := hG.trans (lt_eq hq_x_3233.symm)
        have bx_3233 := hw.1
        have dx_3233 := bz_ti bx_3233
        have px_3233 := hw.2
        rcases px_3233 with ⟨gx_3233, hx_3233⟩ | ⟨gx_3233, hx_3233⟩
        · skip
          have l9x_3233 := kc_0
          have m9x_3233 := kc_6
          refine lv_if_eq (tgt := 37) hx hb dX7_size_30 (by decide) (fun c_3234 => ?_) (fun c_3234 => ?_)
          · skip
            have hG := hG.trans (if_pos c_3234)
            have gc_3234 := ti_eq c_3234 rfl kc_0
            exfalso; clear hG; omega
          · skip
            have hG := hG.trans (if_neg c_3234)
            have gc_3234 := ti_ne c_3234 rfl kc_0
            refine lv_iconst (v := 0) hx hb dX7_size_33 (by decide) ?_
            refine lv_goto (tgt := 38) hx hb dX7_size_34 (by decide) ?_
            exact W.iret hx hb hr (fun t ht hW => ⟨⟨_, (cI 0), rfl, ⟨⟨trivial, trivial⟩, (cI_of 0)⟩, ⟨0, (by decide), (cI_tup hG), Bw.to (hP.sub [0, 1] rfl) (hD.sub [0, 1] (by decide) rfl) (hK.sub [0] rfl) ht hW⟩⟩, hS.F ht⟩) hS.2.2 dX7_size_38
        · skip
          have l9x_3233 := kc_0
          have m9x_3233 := kc_6
          refine lv_if_eq (tgt := 37) hx hb dX7_size_30 (by decide) (fun c_3235 => ?_) (fun c_3235 => ?_)
          · skip
            have hG := hG.trans (if_pos c_3235)
            have gc_3235 := ti_eq c_3235 rfl kc_0
            refine lv_iconst (v := (-1)) hx hb dX7_size_37 (by decide) ?_
            exact W.iret hx hb hr (fun t ht hW => ⟨⟨_, (cI (-1)), rfl, ⟨⟨trivial, trivial⟩, (cI_of (-1))⟩, ⟨0, (by decide), (cI_tup hG), Bw.to (hP.sub [0, 1] rfl) (hD.sub [0, 1] (by decide) rfl) (hK.sub [0] rfl) ht hW⟩⟩, hS.F ht⟩) hS.2.2 dX7_size_38
          · skip
            have hG := hG.trans (if_neg c_3235)
            have gc_3235 := ti_ne c_3235 rfl kc_0
            exfalso; clear hG; omega
    · skip
      refine va_get (D := (dC, dI)) (ci := 7) (v := .int iM_hasCourt) (C := RX7) (T := TX7) (N := 48) hx hb hts inX7 hown hK hP 0 rfl rfl 14 (by decide) (hts _ wd_385) (fun _ h9 => h9) rfl dX7_size_17 ?_
      refine lv_if_ne (tgt := 39) hx hb dX7_size_20 (by decide) (fun c_3236 => ?_) (fun c_3236 => ?_)
      · skip
        have hG := hG.trans (if_neg c_3236)
        have gc_3236 := ti_ne c_3236 rfl kc_0
        refine lv_iload_n hx hb dX7_size_39 rfl (lv_at hl 1 rfl) ?_
        refine lv_iconst (v := 0) hx hb dX7_size_40 (by decide) ?_
        refine lv_iconst (v := 3) hx hb dX7_size_41 (by decide) ?_
        have hFc : ∀ q, va_A [] _ q → A q := fun q h => hA q (Nat.le_trans hS.1 (va_nilA h))
        refine va_calli (va_runS (As := [.int p0, .int 0, .int 3]) (rest := []) ⟨hx, hb, hml, hown, hts⟩ (tX7_in l dC dI _ p0 0 3 ) (va_cwS 3 hts (wd_S wd_393 wd_394 wd_5 (wd_c wd_395)) rfl rfl rfl (by decide +kernel) ⟨Nat.le_of_ble_eq_true rfl, Nat.le_of_ble_eq_true rfl⟩) ⟨Pw.fb, fun U hU hW => Pn.to hK hE hS hA hU hW⟩ rfl rfl hl.1 rfl (lv_room (Nat.le_of_ble_eq_true rfl)) dX7_size_42 ⟨Nat.le_of_ble_eq_true rfl, Nat.le_of_ble_eq_true rfl⟩) hS (fun q _ h => hFc q h) hFc (fun r u t H locs ht hvm hw hB hz1 hk1 hS => ?_)
        obtain ⟨hP, hD, hK⟩ := Bw.same ht hvm hP hD hK hk1 hFc
        clear hz1 hk1 hvm ht hB
        have hq9 := hw.2
        have hw := hw.1
        obtain ⟨x_3237, rfl⟩ : ∃ z, z = r := ⟨_, rfl⟩
        have hq_x_3237 := hq9
        have hG := hG.trans (lt_eq hq_x_3237.symm)
        have bx_3237 := hw.1
        have dx_3237 := bz_ti bx_3237
        have px_3237 := hw.2
        rcases px_3237 with ⟨gx_3237, hx_3237⟩ | ⟨gx_3237, hx_3237⟩
        · skip
          have l9x_3237 := kc_0
          have m9x_3237 := kc_3
          refine lv_if_eq (tgt := 55) hx hb dX7_size_45 (by decide) (fun c_3238 => ?_) (fun c_3238 => ?_)
          · skip
            have hG := hG.trans (if_pos c_3238)
            have gc_3238 := ti_eq c_3238 rfl kc_0
            exfalso; clear hG; omega
          · skip
            have hG := hG.trans (if_neg c_3238)
            have gc_3238 := ti_ne c_3238 rfl kc_0
            refine lv_aload_n hx hb dX7_size_48 rfl (lv_at hl 0 rfl) ?_
            refine va_get (D := (dC, dI)) (ci := 7) (v := .ref rM_r) (C := RX7) (T := TX7) (N := 48) hx hb hts inX7 hown hK hP 0 rfl rfl 15 (by decide) (hts _ wd_155) (fun _ h9 => h9) rfl dX7_size_49 ?_
            refine lv_iload_n hx hb dX7_size_52 rfl (lv_at hl 1 rfl) ?_
            refine va_iald hx hb hK hP 1 0 rfl rfl (ti_in rfl (by omega) (by omega)) dX7_size_53 ?_
            refine lv_topi (fun x_3239 ex_3239 => ?_)
            have hG := hG.trans (lt_eq ex_3239)
            have kx_3239 : (fM_r p0.toNatClampNeg).toInt = x_3239.toInt := by rw [ex_3239]
            have cx_3239 := kx_3239
            exact W.iret hx hb hr (fun t ht hW => ⟨⟨_, (cI x_3239), rfl, ⟨⟨trivial, trivial⟩, (cI_of x_3239)⟩, ⟨0, (by decide), (cI_tup hG), Bw.to (hP.sub [0, 1] rfl) (hD.sub [0, 1] (by decide) rfl) (hK.sub [0] rfl) ht hW⟩⟩, hS.F ht⟩) hS.2.2 dX7_size_54
        · skip
          have l9x_3237 := kc_0
          have m9x_3237 := kc_3
          refine lv_if_eq (tgt := 55) hx hb dX7_size_45 (by decide) (fun c_3240 => ?_) (fun c_3240 => ?_)
          · skip
            have hG := hG.trans (if_pos c_3240)
            have gc_3240 := ti_eq c_3240 rfl kc_0
            refine lv_iload_n hx hb dX7_size_55 rfl (lv_at hl 1 rfl) ?_
            refine lv_iconst (v := 4) hx hb dX7_size_56 (by decide) ?_
            refine lv_icmp_ne (tgt := 77) hx hb dX7_size_57 (by decide) (fun c_3241 => ?_) (fun c_3241 => ?_)
            · skip
              have hG := hG.trans (if_neg c_3241)
              have gc_3241 := ti_ne c_3241 rfl kc_4
              refine lv_iload_n hx hb dX7_size_77 rfl (lv_at hl 1 rfl) ?_
              refine lv_iconst (v := 5) hx hb dX7_size_78 (by decide) ?_
              refine lv_icmp_ne (tgt := 89) hx hb dX7_size_79 (by decide) (fun c_3242 => ?_) (fun c_3242 => ?_)
              · skip
                have hG := hG.trans (if_neg c_3242)
                have gc_3242 := ti_ne c_3242 rfl kc_5
                refine lv_iload_n hx hb dX7_size_89 rfl (lv_at hl 1 rfl) ?_
                refine lv_bipush (v := 6) hx hb dX7_size_90 (by decide) ?_
                refine lv_icmp_ne (tgt := 102) hx hb dX7_size_92 (by decide) (fun c_3243 => ?_) (fun c_3243 => ?_)
                · skip
                  have hG := hG.trans (if_neg c_3243)
                  have gc_3243 := ti_ne c_3243 rfl kc_6
                  refine lv_iconst (v := (-1)) hx hb dX7_size_102 (by decide) ?_
                  exact W.iret hx hb hr (fun t ht hW => ⟨⟨_, (cI (-1)), rfl, ⟨⟨trivial, trivial⟩, (cI_of (-1))⟩, ⟨0, (by decide), (cI_tup hG), Bw.to (hP.sub [0, 1] rfl) (hD.sub [0, 1] (by decide) rfl) (hK.sub [0] rfl) ht hW⟩⟩, hS.F ht⟩) hS.2.2 dX7_size_103
                · skip
                  have hG := hG.trans (if_pos c_3243)
                  have gc_3243 := ti_eq c_3243 rfl kc_6
                  refine lv_aload_n hx hb dX7_size_95 rfl (lv_at hl 0 rfl) ?_
                  refine va_get (D := (dC, dI)) (ci := 7) (v := .int iM_images) (C := RX7) (T := TX7) (N := 48) hx hb hts inX7 hown hK hP 0 rfl rfl 23 (by decide) (hts _ wd_387) (fun _ h9 => h9) rfl dX7_size_96 ?_
                  refine lv_goto (tgt := 103) hx hb dX7_size_99 (by decide) ?_
                  exact W.iret hx hb hr (fun t ht hW => ⟨⟨_, (cI iM_images), rfl, ⟨⟨trivial, trivial⟩, (cI_of iM_images)⟩, ⟨0, (by decide), (cI_tup hG), Bw.to (hP.sub [0, 1] rfl) (hD.sub [0, 1] (by decide) rfl) (hK.sub [0] rfl) ht hW⟩⟩, hS.F ht⟩) hS.2.2 dX7_size_103
              · skip
                have hG := hG.trans (if_pos c_3242)
                have gc_3242 := ti_eq c_3242 rfl kc_5
                refine lv_aload_n hx hb dX7_size_82 rfl (lv_at hl 0 rfl) ?_
                refine va_get (D := (dC, dI)) (ci := 7) (v := .int iM_undos) (C := RX7) (T := TX7) (N := 48) hx hb hts inX7 hown hK hP 0 rfl rfl 22 (by decide) (hts _ wd_386) (fun _ h9 => h9) rfl dX7_size_83 ?_
                refine lv_goto (tgt := 103) hx hb dX7_size_86 (by decide) ?_
                exact W.iret hx hb hr (fun t ht hW => ⟨⟨_, (cI iM_undos), rfl, ⟨⟨trivial, trivial⟩, (cI_of iM_undos)⟩, ⟨0, (by decide), (cI_tup hG), Bw.to (hP.sub [0, 1] rfl) (hD.sub [0, 1] (by decide) rfl) (hK.sub [0] rfl) ht hW⟩⟩, hS.F ht⟩) hS.2.2 dX7_size_103
            · skip
              have hG := hG.trans (if_pos c_3241)
              have gc_3241 := ti_eq c_3241 rfl kc_4
              refine lv_aload_n hx hb dX7_size_60 rfl (lv_at hl 0 rfl) ?_
              refine va_get (D := (dC, dI)) (ci := 7) (v := .ref rM_r) (C := RX7) (T := TX7) (N := 48) hx hb hts inX7 hown hK hP 0 rfl rfl 15 (by decide) (hts _ wd_155) (fun _ h9 => h9) rfl dX7_size_61 ?_
              refine lv_iconst (v := 4) hx hb dX7_size_64 (by decide) ?_
              refine va_iald hx hb hK hP 1 0 rfl rfl (by unfold vp_in; decide) dX7_size_65 ?_
              refine lv_topi (fun x_3244 ex_3244 => ?_)
              have hG := hG.trans (lt_eq ex_3244)
              have cx_3244 : (fM_r 4).toInt = x_3244.toInt := congrArg Int32.toInt (show fM_r 4 = x_3244 from ex_3244.symm)
              refine lv_if_le (tgt := 73) hx hb dX7_size_66 (by decide) (fun c_3245 => ?_) (fun c_3245 => ?_)
              · skip
                have hG := hG.trans (if_pos c_3245)
                have gc_3245 := ti_le c_3245 rfl kc_0
                refine lv_iconst (v := 0) hx hb dX7_size_73 (by decide) ?_
                refine lv_goto (tgt := 103) hx hb dX7_size_74 (by decide) ?_
                exact W.iret hx hb hr (fun t ht hW => ⟨⟨_, (cI 0), rfl, ⟨⟨trivial, trivial⟩, (cI_of 0)⟩, ⟨0, (by decide), (cI_tup hG), Bw.to (hP.sub [0, 1] rfl) (hD.sub [0, 1] (by decide) rfl) (hK.sub [0] rfl) ht hW⟩⟩, hS.F ht⟩) hS.2.2 dX7_size_103
              · skip
                have hG := hG.trans (if_neg c_3245)
                have gc_3245 := ti_nle c_3245 rfl kc_0
                refine lv_iconst (v := 1) hx hb dX7_size_69 (by decide) ?_
                refine lv_goto (tgt := 103) hx hb dX7_size_70 (by decide) ?_
                exact W.iret hx hb hr (fun t ht hW => ⟨⟨_, (cI 1), rfl, ⟨⟨trivial, trivial⟩, (cI_of 1)⟩, ⟨0, (by decide), (cI_tup hG), Bw.to (hP.sub [0, 1] rfl) (hD.sub [0, 1] (by decide) rfl) (hK.sub [0] rfl) ht hW⟩⟩, hS.F ht⟩) hS.2.2 dX7_size_103
          · skip
            have hG := hG.trans (if_neg c_3240)
            have gc_3240 := ti_ne c_3240 rfl kc_0
            exfalso; clear hG; omega
      · skip
        have hG := hG.trans (if_pos c_3236)
        have gc_3236 := ti_eq c_3236 rfl kc_0
        refine lv_iload_n hx hb dX7_size_23 rfl (lv_at hl 1 rfl) ?_
        refine lv_iconst (v := 0) hx hb dX7_size_24 (by decide) ?_
        refine lv_bipush (v := 6) hx hb dX7_size_25 (by decide) ?_
        have hFc : ∀ q, va_A [] _ q → A q := fun q h => hA q (Nat.le_trans hS.1 (va_nilA h))
        refine va_calli (va_runS (As := [.int p0, .int 0, .int 6]) (rest := []) ⟨hx, hb, hml, hown, hts⟩ (tX7_in l dC dI _ p0 0 6 ) (va_cwS 3 hts (wd_S wd_393 wd_394 wd_5 (wd_c wd_395)) rfl rfl rfl (by decide +kernel) ⟨Nat.le_of_ble_eq_true rfl, Nat.le_of_ble_eq_true rfl⟩) ⟨Pw.fb, fun U hU hW => Pn.to hK hE hS hA hU hW⟩ rfl rfl hl.1 rfl (lv_room (Nat.le_of_ble_eq_true rfl)) dX7_size_27 ⟨Nat.le_of_ble_eq_true rfl, Nat.le_of_ble_eq_true rfl⟩) hS (fun q _ h => hFc q h) hFc (fun r u t H locs ht hvm hw hB hz1 hk1 hS => ?_)
        obtain ⟨hP, hD, hK⟩ := Bw.same ht hvm hP hD hK hk1 hFc
        clear hz1 hk1 hvm ht hB
        have hq9 := hw.2
        have hw := hw.1
        obtain ⟨x_3246, rfl⟩ : ∃ z, z = r := ⟨_, rfl⟩
        have hq_x_3246 := hq9
        have hG := hG.trans (lt_eq hq_x_3246.symm)
        have bx_3246 := hw.1
        have dx_3246 := bz_ti bx_3246
        have px_3246 := hw.2
        rcases px_3246 with ⟨gx_3246, hx_3246⟩ | ⟨gx_3246, hx_3246⟩
        · skip
          have l9x_3246 := kc_0
          have m9x_3246 := kc_6
          refine lv_if_eq (tgt := 37) hx hb dX7_size_30 (by decide) (fun c_3247 => ?_) (fun c_3247 => ?_)
          · skip
            have hG := hG.trans (if_pos c_3247)
            have gc_3247 := ti_eq c_3247 rfl kc_0
            exfalso; clear hG; omega
          · skip
            have hG := hG.trans (if_neg c_3247)
            have gc_3247 := ti_ne c_3247 rfl kc_0
            refine lv_iconst (v := 0) hx hb dX7_size_33 (by decide) ?_
            refine lv_goto (tgt := 38) hx hb dX7_size_34 (by decide) ?_
            exact W.iret hx hb hr (fun t ht hW => ⟨⟨_, (cI 0), rfl, ⟨⟨trivial, trivial⟩, (cI_of 0)⟩, ⟨0, (by decide), (cI_tup hG), Bw.to (hP.sub [0, 1] rfl) (hD.sub [0, 1] (by decide) rfl) (hK.sub [0] rfl) ht hW⟩⟩, hS.F ht⟩) hS.2.2 dX7_size_38
        · skip
          have l9x_3246 := kc_0
          have m9x_3246 := kc_6
          refine lv_if_eq (tgt := 37) hx hb dX7_size_30 (by decide) (fun c_3248 => ?_) (fun c_3248 => ?_)
          · skip
            have hG := hG.trans (if_pos c_3248)
            have gc_3248 := ti_eq c_3248 rfl kc_0
            refine lv_iconst (v := (-1)) hx hb dX7_size_37 (by decide) ?_
            exact W.iret hx hb hr (fun t ht hW => ⟨⟨_, (cI (-1)), rfl, ⟨⟨trivial, trivial⟩, (cI_of (-1))⟩, ⟨0, (by decide), (cI_tup hG), Bw.to (hP.sub [0, 1] rfl) (hD.sub [0, 1] (by decide) rfl) (hK.sub [0] rfl) ht hW⟩⟩, hS.F ht⟩) hS.2.2 dX7_size_38
          · skip
            have hG := hG.trans (if_neg c_3248)
            have gc_3248 := ti_ne c_3248 rfl kc_0
            exfalso; clear hG; omega
  · skip
    have hG := hG.trans (if_pos c_3231)
    have gc_3231 := ti_eq c_3231 rfl kc_7
    refine lv_aload_n hx hb dX7_size_11 rfl (lv_at hl 0 rfl) ?_
    refine va_get (D := (dC, dI)) (ci := 7) (v := .int iM_taped) (C := RX7) (T := TX7) (N := 48) hx hb hts inX7 hown hK hP 0 rfl rfl 2 (by decide) (hts _ wd_185) (fun _ h9 => h9) rfl dX7_size_12 ?_
    exact W.iret hx hb hr (fun t ht hW => ⟨⟨_, (cI iM_taped), rfl, ⟨⟨trivial, trivial⟩, (cI_of iM_taped)⟩, ⟨0, (by decide), (cI_tup hG), Bw.to (hP.sub [0, 1] rfl) (hD.sub [0, 1] (by decide) rfl) (hK.sub [0] rfl) ht hW⟩⟩, hS.F ht⟩) hS.2.2 dX7_size_15
set_option maxHeartbeats 4000000 in
set_option maxRecDepth 100000 in
theorem tX7_trouble (l : Launch) (dC : Nat → ClassId) (dI : Nat → Nat → Nat) (sz : Nat) (oM : Nat) (iM_thrown : Int32) (rM_tape : Nat) (iM_taped : Int32) (iM_size : Int32) (iM_at : Int32) (iM_end : Int32) (iM_token : Int32) (iM_whole : Int32) (iM_nameSize : Int32) (iM_fault : Int32) (iM_place : Int32) (iM_trouble : Int32) (rM_letters : Nat) (iM_failed : Int32) (iM_hasCourt : Int32) (rM_r : Nat) (rM_fresh : Nat) (rM_told : Nat) (rM_read : Nat) (rM_st : Nat) (rM_undone : Nat) (rM_kept : Nat) (iM_undos : Int32) (iM_images : Int32) (rM_fresher : Nat) (iM_fresherSize : Int32) (iM_scale : Int32) (iM_night : Int32) (rM_heardRow : Nat) (rM_cutRow : Nat) (iM_breaths : Int32) (iM_cutMany : Int32) (iM_allBreaths : Int32) (rM_trial : Nat) (rM_words : Nat) (iM_fewestBreaths : Int32) (iM_orderMany : Int32) (iM_orderSum : Int32) (iM_leastOrder : Int32) (rM_often : Nat) (iM_setMany : Int32) (iM_someOf : Int32) (iM_allOf : Int32) (iM_allWeight : Int64) (iM_enoughWeight : Int64) (iM_worthSum : Int64) (iM_firstRest : Int32) (iM_leastDrawn : Int32) (b_iM_taped : 0 ≤ iM_taped.toInt ∧ iM_taped.toInt ≤ 900) (b_iM_size : 0 ≤ iM_size.toInt ∧ iM_size.toInt ≤ 900) (b_iM_end : 0 ≤ iM_end.toInt ∧ iM_end.toInt ≤ 900) (b_iM_failed : 0 ≤ iM_failed.toInt ∧ iM_failed.toInt ≤ 1) (b_iM_hasCourt : 0 ≤ iM_hasCourt.toInt ∧ iM_hasCourt.toInt ≤ 1) (b_iM_undos : 0 ≤ iM_undos.toInt ∧ iM_undos.toInt ≤ 16) (b_iM_images : 0 ≤ iM_images.toInt ∧ iM_images.toInt ≤ 3) (b_iM_scale : 1 ≤ iM_scale.toInt ∧ iM_scale.toInt ≤ 1296) (b_iM_breaths : 0 ≤ iM_breaths.toInt ∧ iM_breaths.toInt ≤ 399) (b_iM_cutMany : 0 ≤ iM_cutMany.toInt ∧ iM_cutMany.toInt ≤ 399)  : Met l yX7_trouble (Cond.code yX7_trouble cX7_trouble 1 (some .int) :: wG) ({ frames := 0, cells := 0, slots := 0, locals := 0 }) (va_Pc [.ref oM] (Pw dC dI sz [(oc7 oM iM_thrown rM_tape iM_taped iM_size iM_at iM_end iM_token iM_whole iM_nameSize iM_fault iM_place iM_trouble rM_letters iM_failed iM_hasCourt rM_r rM_fresh rM_told rM_read rM_st rM_undone rM_kept iM_undos iM_images rM_fresher iM_fresherSize iM_scale iM_night rM_heardRow rM_cutRow iM_breaths iM_cutMany iM_allBreaths rM_trial rM_words iM_fewestBreaths iM_orderMany iM_orderSum iM_leastOrder rM_often iM_setMany iM_someOf iM_allOf iM_allWeight iM_enoughWeight iM_worthSum iM_firstRest iM_leastDrawn)] [])) (va_Qi (fun (r : Int32) (u : Nat) => (True ∧ True) ∧ r = Int32.ofNat u) (fun (u : Nat) (t : State) => ∃ (niM_thrown : Int32), (0 ≤ niM_thrown.toInt ∧ niM_thrown.toInt ≤ 0) ∧ (PX7_trouble iM_trouble = (Int32.ofNat u, niM_thrown)) ∧ Bw dC dI (va_A [(oc7 oM iM_thrown rM_tape iM_taped iM_size iM_at iM_end iM_token iM_whole iM_nameSize iM_fault iM_place iM_trouble rM_letters iM_failed iM_hasCourt rM_r rM_fresh rM_told rM_read rM_st rM_undone rM_kept iM_undos iM_images rM_fresher iM_fresherSize iM_scale iM_night rM_heardRow rM_cutRow iM_breaths iM_cutMany iM_allBreaths rM_trial rM_words iM_fewestBreaths iM_orderMany iM_orderSum iM_leastOrder rM_often iM_setMany iM_someOf iM_allOf iM_allWeight iM_enoughWeight iM_worthSum iM_firstRest iM_leastDrawn)] sz) [(oc7 oM niM_thrown rM_tape iM_taped iM_size iM_at iM_end iM_token iM_whole iM_nameSize iM_fault iM_place iM_trouble rM_letters iM_failed iM_hasCourt rM_r rM_fresh rM_told rM_read rM_st rM_undone rM_kept iM_undos iM_images rM_fresher iM_fresherSize iM_scale iM_night rM_heardRow rM_cutRow iM_breaths iM_cutMany iM_allBreaths rM_trial rM_words iM_fewestBreaths iM_orderMany iM_orderSum iM_leastOrder rM_often iM_setMany iM_someOf iM_allOf iM_allWeight iM_enoughWeight iM_worthSum iM_firstRest iM_leastDrawn)] [] t) (va_A [(oc7 oM iM_thrown rM_tape iM_taped iM_size iM_at iM_end iM_token iM_whole iM_nameSize iM_fault iM_place iM_trouble rM_letters iM_failed iM_hasCourt rM_r rM_fresh rM_told rM_read rM_st rM_undone rM_kept iM_undos iM_images rM_fresher iM_fresherSize iM_scale iM_night rM_heardRow rM_cutRow iM_breaths iM_cutMany iM_allBreaths rM_trial rM_words iM_fewestBreaths iM_orderMany iM_orderSum iM_leastOrder rM_often iM_setMany iM_someOf iM_allOf iM_allWeight iM_enoughWeight iM_worthSum iM_firstRest iM_leastDrawn)] sz)) 0 0 (va_A [(oc7 oM iM_thrown rM_tape iM_taped iM_size iM_at iM_end iM_token iM_whole iM_nameSize iM_fault iM_place iM_trouble rM_letters iM_failed iM_hasCourt rM_r rM_fresh rM_told rM_read rM_st rM_undone rM_kept iM_undos iM_images rM_fresher iM_fresherSize iM_scale iM_night rM_heardRow rM_cutRow iM_breaths iM_cutMany iM_allBreaths rM_trial rM_words iM_fewestBreaths iM_orderMany iM_orderSum iM_leastOrder rM_often iM_setMany iM_someOf iM_allOf iM_allWeight iM_enoughWeight iM_worthSum iM_firstRest iM_leastDrawn)] sz) := by
  refine Met.ofW (cc := cX7_trouble) (maxL := 1) (ret := (some .int)) (by decide) rfl ?_
  intro p e s m args below meth c s₁ B hml hv
  obtain ⟨rfl, hsz, hP, hK, hD0, hE⟩ := hv
  have hx := B.exec
  have hb := B.bytes
  have hr := B.returns
  have hts : ∀ w ∈ wG, w.before ([.ref oM] : List Value).toArray s = true := fun w h => atoms_spec (ws := Cond.code yX7_trouble cX7_trouble 1 (some .int) :: wG) B.pre w (List.mem_cons_of_mem _ h)
  have hown : s.vm.findClass RX7 = some m.cls := findClass_of_methodNamed B.named
  have hlocks := B.notSynchronized
  subst hsz
  have hD := hD0.self (sz := s.heap.size)
  generalize hAe : va_A [(oc7 oM iM_thrown rM_tape iM_taped iM_size iM_at iM_end iM_token iM_whole iM_nameSize iM_fault iM_place iM_trouble rM_letters iM_failed iM_hasCourt rM_r rM_fresh rM_told rM_read rM_st rM_undone rM_kept iM_undos iM_images rM_fresher iM_fresherSize iM_scale iM_night rM_heardRow rM_cutRow iM_breaths iM_cutMany iM_allBreaths rM_trial rM_words iM_fewestBreaths iM_orderMany iM_orderSum iM_leastOrder rM_often iM_setMany iM_someOf iM_allOf iM_allWeight iM_enoughWeight iM_worthSum iM_firstRest iM_leastDrawn)] s.heap.size = A at hD hE ⊢
  have hA : ∀ q : Nat, s.heap.size ≤ q → A q := fun q h => by rw [← hAe]; exact Or.inr h
  have hS : va_S A s.heap s.heap [] := va_S.rf
  have hl := lv_entry ([.ref oM]) (n := 1) (Nat.le_of_ble_eq_true rfl)
  rw [lg_entry_eq]
  generalize (lg_sl ([.ref oM]) ++ List.replicate (1 - (lg_sl ([.ref oM])).length) Slot.unset).toArray = ls at hl ⊢
  have hl : lv_has ls 1 [(0, .ref oM)] := hl
  have hG := PX7_trouble_eq iM_trouble
  refine lv_aload_n hx hb dX7_trouble_0 rfl (lv_at hl 0 rfl) ?_
  refine lv_iconst (v := 0) hx hb dX7_trouble_1 (by decide) ?_
  refine va_put (D := (dC, dI)) (ci := 7) (v := .int 0) (ty := .int) (C := RX7) (T := TX7) (N := 48) hx hb hts inX7 tyX7 tyX7_ok nmX7 hown hK hP hD hS 0 rfl rfl 0 (by decide) (hts _ wd_184) (fun _ h9 => h9) rfl (by decide +kernel) rfl rfl (Nat.le_of_ble_eq_true rfl) dX7_trouble_2 (fun H locs hP hD hS => ?_)
  obtain ⟨hP, hD⟩ := wl2 (ws' := [(oc7 oM 0 rM_tape iM_taped iM_size iM_at iM_end iM_token iM_whole iM_nameSize iM_fault iM_place iM_trouble rM_letters iM_failed iM_hasCourt rM_r rM_fresh rM_told rM_read rM_st rM_undone rM_kept iM_undos iM_images rM_fresher iM_fresherSize iM_scale iM_night rM_heardRow rM_cutRow iM_breaths iM_cutMany iM_allBreaths rM_trial rM_words iM_fewestBreaths iM_orderMany iM_orderSum iM_leastOrder rM_often iM_setMany iM_someOf iM_allOf iM_allWeight iM_enoughWeight iM_worthSum iM_firstRest iM_leastDrawn)]) hP hD rfl
  refine lv_aload_n hx hb dX7_trouble_5 rfl (lv_at hl 0 rfl) ?_
  refine va_get (D := (dC, dI)) (ci := 7) (v := .int iM_trouble) (C := RX7) (T := TX7) (N := 48) hx hb hts inX7 hown hK hP 0 rfl rfl 11 (by decide) (hts _ wd_392) (fun _ h9 => h9) rfl dX7_trouble_6 ?_
  exact W.iret hx hb hr (fun t ht hW => ⟨⟨_, (cI iM_trouble), rfl, ⟨⟨trivial, trivial⟩, (cI_of iM_trouble)⟩, ⟨0, (by decide), (cI_tup hG), Bw.to (hP.sub [0] rfl) (hD.sub [0] (by decide) rfl) (hK.sub [] rfl) ht hW⟩⟩, hS.F ht⟩) hS.2.2 dX7_trouble_9
set_option maxHeartbeats 4000000 in
set_option maxRecDepth 100000 in
theorem tX7_led (l : Launch) (dC : Nat → ClassId) (dI : Nat → Nat → Nat) (sz : Nat) (oM : Nat) (iM_thrown : Int32) (rM_tape : Nat) (iM_taped : Int32) (iM_size : Int32) (iM_at : Int32) (iM_end : Int32) (iM_token : Int32) (iM_whole : Int32) (iM_nameSize : Int32) (iM_fault : Int32) (iM_place : Int32) (iM_trouble : Int32) (rM_letters : Nat) (iM_failed : Int32) (iM_hasCourt : Int32) (rM_r : Nat) (fM_r : Nat → Int32) (kM_r : ClassId) (rM_fresh : Nat) (rM_told : Nat) (fM_told : Nat → Int32) (kM_told : ClassId) (rM_read : Nat) (rM_st : Nat) (fM_st : Nat → Int32) (kM_st : ClassId) (rM_undone : Nat) (rM_kept : Nat) (iM_undos : Int32) (iM_images : Int32) (rM_fresher : Nat) (iM_fresherSize : Int32) (iM_scale : Int32) (iM_night : Int32) (rM_heardRow : Nat) (fM_heardRow : Nat → Int32) (kM_heardRow : ClassId) (rM_cutRow : Nat) (fM_cutRow : Nat → Int32) (kM_cutRow : ClassId) (iM_breaths : Int32) (iM_cutMany : Int32) (iM_allBreaths : Int32) (rM_trial : Nat) (rM_words : Nat) (iM_fewestBreaths : Int32) (iM_orderMany : Int32) (iM_orderSum : Int32) (iM_leastOrder : Int32) (rM_often : Nat) (iM_setMany : Int32) (iM_someOf : Int32) (iM_allOf : Int32) (iM_allWeight : Int64) (iM_enoughWeight : Int64) (iM_worthSum : Int64) (iM_firstRest : Int32) (iM_leastDrawn : Int32) (p0 : Int32) (b_iM_taped : 0 ≤ iM_taped.toInt ∧ iM_taped.toInt ≤ 900) (b_iM_size : 0 ≤ iM_size.toInt ∧ iM_size.toInt ≤ 900) (b_iM_end : 0 ≤ iM_end.toInt ∧ iM_end.toInt ≤ 900) (b_iM_failed : 0 ≤ iM_failed.toInt ∧ iM_failed.toInt ≤ 1) (b_iM_hasCourt : 0 ≤ iM_hasCourt.toInt ∧ iM_hasCourt.toInt ≤ 1) (b_iM_undos : 0 ≤ iM_undos.toInt ∧ iM_undos.toInt ≤ 16) (b_iM_images : 0 ≤ iM_images.toInt ∧ iM_images.toInt ≤ 3) (b_iM_scale : 1 ≤ iM_scale.toInt ∧ iM_scale.toInt ≤ 1296) (b_iM_breaths : 0 ≤ iM_breaths.toInt ∧ iM_breaths.toInt ≤ 399) (b_iM_cutMany : 0 ≤ iM_cutMany.toInt ∧ iM_cutMany.toInt ≤ 399) (r_R : ROk fM_r) (r_C : iM_hasCourt.toInt ≤ 0 ∨ (1 ≤ (fM_r 1).toInt ∧ 0 ≤ (fM_r 6).toInt ∧ (fM_r 6).toInt < (fM_r 1).toInt)) (r_st : RowOk fM_r fM_st) (r_told : RowOk fM_r fM_told) (r_wst : WorOk fM_st)  : Met l yX7_led (Cond.code yX7_led cX7_led 5 (some .int) :: wG) ({ frames := 23, cells := 0, slots := 0, locals := 647 }) (va_Pc [.ref oM, .int p0] (Pw dC dI sz [(oc7 oM iM_thrown rM_tape iM_taped iM_size iM_at iM_end iM_token iM_whole iM_nameSize iM_fault iM_place iM_trouble rM_letters iM_failed iM_hasCourt rM_r rM_fresh rM_told rM_read rM_st rM_undone rM_kept iM_undos iM_images rM_fresher iM_fresherSize iM_scale iM_night rM_heardRow rM_cutRow iM_breaths iM_cutMany iM_allBreaths rM_trial rM_words iM_fewestBreaths iM_orderMany iM_orderSum iM_leastOrder rM_often iM_setMany iM_someOf iM_allOf iM_allWeight iM_enoughWeight iM_worthSum iM_firstRest iM_leastDrawn), (arI rM_r kM_r 287 fM_r), (arI rM_told kM_told 90 fM_told), (arI rM_st kM_st 90 fM_st), (arI rM_heardRow kM_heardRow 400 fM_heardRow), (arI rM_cutRow kM_cutRow 800 fM_cutRow)] [(kM_r, .int), (kM_told, .int), (kM_st, .int), (kM_heardRow, .int), (kM_cutRow, .int)])) (va_Qi (fun (r : Int32) (_ : Nat) => True ∧ True) (fun (_ : Nat) (t : State) => ∃ (niM_thrown : Int32) (niM_breaths : Int32) (niM_cutMany : Int32) (nfM_heardRow : Nat → Int32) (nfM_cutRow : Nat → Int32), (0 ≤ niM_thrown.toInt ∧ niM_thrown.toInt ≤ 1) ∧ (0 ≤ niM_breaths.toInt ∧ niM_breaths.toInt ≤ 399) ∧ (0 ≤ niM_cutMany.toInt ∧ niM_cutMany.toInt ≤ 399) ∧ Bw dC dI (va_A [(oc7 oM iM_thrown rM_tape iM_taped iM_size iM_at iM_end iM_token iM_whole iM_nameSize iM_fault iM_place iM_trouble rM_letters iM_failed iM_hasCourt rM_r rM_fresh rM_told rM_read rM_st rM_undone rM_kept iM_undos iM_images rM_fresher iM_fresherSize iM_scale iM_night rM_heardRow rM_cutRow iM_breaths iM_cutMany iM_allBreaths rM_trial rM_words iM_fewestBreaths iM_orderMany iM_orderSum iM_leastOrder rM_often iM_setMany iM_someOf iM_allOf iM_allWeight iM_enoughWeight iM_worthSum iM_firstRest iM_leastDrawn), (arI rM_r kM_r 287 fM_r), (arI rM_told kM_told 90 fM_told), (arI rM_st kM_st 90 fM_st), (arI rM_heardRow kM_heardRow 400 fM_heardRow), (arI rM_cutRow kM_cutRow 800 fM_cutRow)] sz) [(oc7 oM niM_thrown rM_tape iM_taped iM_size iM_at iM_end iM_token iM_whole iM_nameSize iM_fault iM_place iM_trouble rM_letters iM_failed iM_hasCourt rM_r rM_fresh rM_told rM_read rM_st rM_undone rM_kept iM_undos iM_images rM_fresher iM_fresherSize iM_scale iM_night rM_heardRow rM_cutRow niM_breaths niM_cutMany iM_allBreaths rM_trial rM_words iM_fewestBreaths iM_orderMany iM_orderSum iM_leastOrder rM_often iM_setMany iM_someOf iM_allOf iM_allWeight iM_enoughWeight iM_worthSum iM_firstRest iM_leastDrawn), (arI rM_r kM_r 287 fM_r), (arI rM_told kM_told 90 fM_told), (arI rM_st kM_st 90 fM_st), (arI rM_heardRow kM_heardRow 400 nfM_heardRow), (arI rM_cutRow kM_cutRow 800 nfM_cutRow)] [(kM_r, .int), (kM_told, .int), (kM_st, .int), (kM_heardRow, .int), (kM_cutRow, .int)] t) (va_A [(oc7 oM iM_thrown rM_tape iM_taped iM_size iM_at iM_end iM_token iM_whole iM_nameSize iM_fault iM_place iM_trouble rM_letters iM_failed iM_hasCourt rM_r rM_fresh rM_told rM_read rM_st rM_undone rM_kept iM_undos iM_images rM_fresher iM_fresherSize iM_scale iM_night rM_heardRow rM_cutRow iM_breaths iM_cutMany iM_allBreaths rM_trial rM_words iM_fewestBreaths iM_orderMany iM_orderSum iM_leastOrder rM_often iM_setMany iM_someOf iM_allOf iM_allWeight iM_enoughWeight iM_worthSum iM_firstRest iM_leastDrawn), (arI rM_r kM_r 287 fM_r), (arI rM_told kM_told 90 fM_told), (arI rM_st kM_st 90 fM_st), (arI rM_heardRow kM_heardRow 400 fM_heardRow), (arI rM_cutRow kM_cutRow 800 fM_cutRow)] sz)) 0 0 (va_A [(oc7 oM iM_thrown rM_tape iM_taped iM_size iM_at iM_end iM_token iM_whole iM_nameSize iM_fault iM_place iM_trouble rM_letters iM_failed iM_hasCourt rM_r rM_fresh rM_told rM_read rM_st rM_undone rM_kept iM_undos iM_images rM_fresher iM_fresherSize iM_scale iM_night rM_heardRow rM_cutRow iM_breaths iM_cutMany iM_allBreaths rM_trial rM_words iM_fewestBreaths iM_orderMany iM_orderSum iM_leastOrder rM_often iM_setMany iM_someOf iM_allOf iM_allWeight iM_enoughWeight iM_worthSum iM_firstRest iM_leastDrawn), (arI rM_r kM_r 287 fM_r), (arI rM_told kM_told 90 fM_told), (arI rM_st kM_st 90 fM_st), (arI rM_heardRow kM_heardRow 400 fM_heardRow), (arI rM_cutRow kM_cutRow 800 fM_cutRow)] sz) := by
  refine Met.ofW (cc := cX7_led) (maxL := 5) (ret := (some .int)) (by decide) rfl ?_
  intro p e s m args below meth c s₁ B hml hv
  obtain ⟨rfl, hsz, hP, hK, hD0, hE⟩ := hv
  have hx := B.exec
  have hb := B.bytes
  have hr := B.returns
  have hts : ∀ w ∈ wG, w.before ([.ref oM, .int p0] : List Value).toArray s = true := fun w h => atoms_spec (ws := Cond.code yX7_led cX7_led 5 (some .int) :: wG) B.pre w (List.mem_cons_of_mem _ h)
  have hown : s.vm.findClass RX7 = some m.cls := findClass_of_methodNamed B.named
  have hlocks := B.notSynchronized
  subst hsz
  have hD := hD0.self (sz := s.heap.size)
  generalize hAe : va_A [(oc7 oM iM_thrown rM_tape iM_taped iM_size iM_at iM_end iM_token iM_whole iM_nameSize iM_fault iM_place iM_trouble rM_letters iM_failed iM_hasCourt rM_r rM_fresh rM_told rM_read rM_st rM_undone rM_kept iM_undos iM_images rM_fresher iM_fresherSize iM_scale iM_night rM_heardRow rM_cutRow iM_breaths iM_cutMany iM_allBreaths rM_trial rM_words iM_fewestBreaths iM_orderMany iM_orderSum iM_leastOrder rM_often iM_setMany iM_someOf iM_allOf iM_allWeight iM_enoughWeight iM_worthSum iM_firstRest iM_leastDrawn), (arI rM_r kM_r 287 fM_r), (arI rM_told kM_told 90 fM_told), (arI rM_st kM_st 90 fM_st), (arI rM_heardRow kM_heardRow 400 fM_heardRow), (arI rM_cutRow kM_cutRow 800 fM_cutRow)] s.heap.size = A at hD hE ⊢
  have hA : ∀ q : Nat, s.heap.size ≤ q → A q := fun q h => by rw [← hAe]; exact Or.inr h
  have hS : va_S A s.heap s.heap [] := va_S.rf
  have hl := lv_entry ([.ref oM, .int p0]) (n := 5) (Nat.le_of_ble_eq_true rfl)
  rw [lg_entry_eq]
  generalize (lg_sl ([.ref oM, .int p0]) ++ List.replicate (5 - (lg_sl ([.ref oM, .int p0])).length) Slot.unset).toArray = ls at hl ⊢
  have hl : lv_has ls 5 [(0, .ref oM), (1, .int p0)] := hl
  have rg_p0 := fb_rng p0
  have s_slips := r_R.slips
  have s_nodes := r_R.nodes
  have s_uns := r_R.uns
  refine lv_iconst (v := 0) hx hb dX7_led_0 (by decide) ?_
  refine lv_istore_n (lv' := [(2, .int 0), (0, .ref oM), (1, .int p0)]) hx hb dX7_led_1 rfl hl (by decide) rfl (fun ls hl => ?_)
  refine lv_aload_n hx hb dX7_led_2 rfl (lv_at hl 1 rfl) ?_
  rcases (show iM_hasCourt.toInt ≤ 0 ∨ (1 ≤ iM_hasCourt.toInt ∧ 1 ≤ (fM_r 1).toInt ∧ 0 ≤ (fM_r 6).toInt ∧ (fM_r 6).toInt < (fM_r 1).toInt) from by omega) with r_C0 | r_C1
  · skip
    refine va_get (D := (dC, dI)) (ci := 7) (v := .int iM_hasCourt) (C := RX7) (T := TX7) (N := 48) hx hb hts inX7 hown hK hP 0 rfl rfl 14 (by decide) (hts _ wd_385) (fun _ h9 => h9) rfl dX7_led_3 ?_
    have rg_iM_hasCourt := fb_rng iM_hasCourt
    refine lv_if_eq (tgt := 16) hx hb dX7_led_6 (by decide) (fun c_3300 => ?_) (fun c_3300 => ?_)
    · skip
      have gc_3300 := ti_eq c_3300 rfl kc_0
      refine lv_iconst (v := 0) hx hb dX7_led_16 (by decide) ?_
      refine lv_istore_n (lv' := [(3, .int 0), (2, .int 0), (0, .ref oM), (1, .int p0)]) hx hb dX7_led_17 rfl hl (by decide) rfl (fun ls hl => ?_)
      refine lv_iconst (v := 0) hx hb dX7_led_18 (by decide) ?_
      refine lv_istore (lv' := [(4, .int 0), (3, .int 0), (2, .int 0), (0, .ref oM), (1, .int p0)]) hx hb dX7_led_19 hl (by decide) rfl (fun ls hl => ?_)
      have hl := lv_sub hl (l' := [(4, .int 0), (3, .int 0), (2, .int 0), (0, .ref oM), (1, .int p0)]) [0, 1, 2, 3, 4] rfl
      have key_n_3303 : ∀ (n_3303 : Nat) (z_3301 : Int32) (z_3302 : Int32) (H : Heap) (locs : List Loc) (ls : Array Slot), (0 ≤ z_3301.toInt ∧ z_3301.toInt ≤ 2147483647) → (2147483647 - z_3301.toInt).toNat < n_3303 → va_P (dC, dI) vwCl [(oc7 oM iM_thrown rM_tape iM_taped iM_size iM_at iM_end iM_token iM_whole iM_nameSize iM_fault iM_place iM_trouble rM_letters iM_failed iM_hasCourt rM_r rM_fresh rM_told rM_read rM_st rM_undone rM_kept iM_undos iM_images rM_fresher iM_fresherSize iM_scale iM_night rM_heardRow rM_cutRow iM_breaths iM_cutMany iM_allBreaths rM_trial rM_words iM_fewestBreaths iM_orderMany iM_orderSum iM_leastOrder rM_often iM_setMany iM_someOf iM_allOf iM_allWeight iM_enoughWeight iM_worthSum iM_firstRest iM_leastDrawn), (arI rM_r kM_r 287 fM_r), (arI rM_told kM_told 90 fM_told), (arI rM_st kM_st 90 fM_st), (arI rM_heardRow kM_heardRow 400 fM_heardRow), (arI rM_cutRow kM_cutRow 800 fM_cutRow)] H → va_D A [(oc7 oM iM_thrown rM_tape iM_taped iM_size iM_at iM_end iM_token iM_whole iM_nameSize iM_fault iM_place iM_trouble rM_letters iM_failed iM_hasCourt rM_r rM_fresh rM_told rM_read rM_st rM_undone rM_kept iM_undos iM_images rM_fresher iM_fresherSize iM_scale iM_night rM_heardRow rM_cutRow iM_breaths iM_cutMany iM_allBreaths rM_trial rM_words iM_fewestBreaths iM_orderMany iM_orderSum iM_leastOrder rM_often iM_setMany iM_someOf iM_allOf iM_allWeight iM_enoughWeight iM_worthSum iM_firstRest iM_leastDrawn), (arI rM_r kM_r 287 fM_r), (arI rM_told kM_told 90 fM_told), (arI rM_st kM_st 90 fM_st), (arI rM_heardRow kM_heardRow 400 fM_heardRow), (arI rM_cutRow kM_cutRow 800 fM_cutRow)] → va_S A s.heap H locs → lv_has ls 5 [(4, .int z_3301), (3, .int 0), (2, .int z_3302), (0, .ref oM), (1, .int p0)] → W p l e (headSpec (Cond.code yX7_led cX7_led 5 (some .int) :: wG) ({ frames := 23, cells := 0, slots := 0, locals := 647 })).room s m ([.ref oM, .int p0] : List Value).toArray below meth c H locs 0 0 (MQ below (va_Qi (fun (r : Int32) (_ : Nat) => True ∧ True) (fun (_ : Nat) (t : State) => ∃ (niM_thrown : Int32) (niM_breaths : Int32) (niM_cutMany : Int32) (nfM_heardRow : Nat → Int32) (nfM_cutRow : Nat → Int32), (0 ≤ niM_thrown.toInt ∧ niM_thrown.toInt ≤ 1) ∧ (0 ≤ niM_breaths.toInt ∧ niM_breaths.toInt ≤ 399) ∧ (0 ≤ niM_cutMany.toInt ∧ niM_cutMany.toInt ≤ 399) ∧ Bw dC dI A [(oc7 oM niM_thrown rM_tape iM_taped iM_size iM_at iM_end iM_token iM_whole iM_nameSize iM_fault iM_place iM_trouble rM_letters iM_failed iM_hasCourt rM_r rM_fresh rM_told rM_read rM_st rM_undone rM_kept iM_undos iM_images rM_fresher iM_fresherSize iM_scale iM_night rM_heardRow rM_cutRow niM_breaths niM_cutMany iM_allBreaths rM_trial rM_words iM_fewestBreaths iM_orderMany iM_orderSum iM_leastOrder rM_often iM_setMany iM_someOf iM_allOf iM_allWeight iM_enoughWeight iM_worthSum iM_firstRest iM_leastDrawn), (arI rM_r kM_r 287 fM_r), (arI rM_told kM_told 90 fM_told), (arI rM_st kM_st 90 fM_st), (arI rM_heardRow kM_heardRow 400 nfM_heardRow), (arI rM_cutRow kM_cutRow 800 nfM_cutRow)] [(kM_r, .int), (kM_told, .int), (kM_st, .int), (kM_heardRow, .int), (kM_cutRow, .int)] t) A) ([.ref oM, .int p0] : List Value).toArray s 0 0 A) (F0 m 21 ls []) := by
        intro n_3303
        induction n_3303 with
        | zero => intro z_3301 z_3302 H locs ls hi0_n_3303 hm; exact absurd hm (by omega)
        | succ n_3303 ih_n_3303 =>
          intro z_3301 z_3302 H locs ls hi0_n_3303 hm hP hD hS hl
          have rg_z_3301 := fb_rng z_3301
          have rg_z_3302 := fb_rng z_3302
          refine lv_aload_n hx hb dX7_led_21 rfl (lv_at hl 3 rfl) ?_
          refine va_get (D := (dC, dI)) (ci := 7) (v := .int iM_hasCourt) (C := RX7) (T := TX7) (N := 48) hx hb hts inX7 hown hK hP 0 rfl rfl 14 (by decide) (hts _ wd_385) (fun _ h9 => h9) rfl dX7_led_22 ?_
          refine lv_if_eq (tgt := 86) hx hb dX7_led_25 (by decide) (fun c_3304 => ?_) (fun c_3304 => ?_)
          · skip
            have gc_3304 := ti_eq c_3304 rfl kc_0
            refine lv_aload_n hx hb dX7_led_86 rfl (lv_at hl 3 rfl) ?_
            refine lv_iconst (v := 1) hx hb dX7_led_87 (by decide) ?_
            refine va_put (D := (dC, dI)) (ci := 7) (v := .int 1) (ty := .int) (C := RX7) (T := TX7) (N := 48) hx hb hts inX7 tyX7 tyX7_ok nmX7 hown hK hP hD hS 0 rfl rfl 0 (by decide) (hts _ wd_184) (fun _ h9 => h9) rfl (by decide +kernel) rfl rfl (Nat.le_of_ble_eq_true rfl) dX7_led_88 (fun H locs hP hD hS => ?_)
            obtain ⟨hP, hD⟩ := wl2 (ws' := [(oc7 oM 1 rM_tape iM_taped iM_size iM_at iM_end iM_token iM_whole iM_nameSize iM_fault iM_place iM_trouble rM_letters iM_failed iM_hasCourt rM_r rM_fresh rM_told rM_read rM_st rM_undone rM_kept iM_undos iM_images rM_fresher iM_fresherSize iM_scale iM_night rM_heardRow rM_cutRow iM_breaths iM_cutMany iM_allBreaths rM_trial rM_words iM_fewestBreaths iM_orderMany iM_orderSum iM_leastOrder rM_often iM_setMany iM_someOf iM_allOf iM_allWeight iM_enoughWeight iM_worthSum iM_firstRest iM_leastDrawn), (arI rM_r kM_r 287 fM_r), (arI rM_told kM_told 90 fM_told), (arI rM_st kM_st 90 fM_st), (arI rM_heardRow kM_heardRow 400 fM_heardRow), (arI rM_cutRow kM_cutRow 800 fM_cutRow)]) hP hD rfl
            refine lv_iconst (v := 0) hx hb dX7_led_91 (by decide) ?_
            exact W.iret hx hb hr (fun t ht hW => ⟨⟨_, 0, rfl, ⟨trivial, trivial⟩, ⟨1, iM_breaths, iM_cutMany, fM_heardRow, fM_cutRow, (by decide), (by omega), (by omega), Bw.to (hP.sub [0, 1, 2, 3, 4, 5] rfl) (hD.sub [0, 1, 2, 3, 4, 5] (by decide) rfl) (hK.sub [0, 1, 2, 3, 4] rfl) ht hW⟩⟩, hS.F ht⟩) hS.2.2 dX7_led_92
          · skip
            have gc_3304 := ti_ne c_3304 rfl kc_0
            exfalso; omega
      exact key_n_3303 (((2147483647 - (0 : Int32).toInt).toNat) + 1) 0 0 _ _ _  (by first | omega | decide | assumption | (have q0 := kc_0; have q1 := kc_1; omega)) (by omega) hP hD hS hl
    · skip
      have gc_3300 := ti_ne c_3300 rfl kc_0
      exfalso; omega
  · skip
    refine va_get (D := (dC, dI)) (ci := 7) (v := .int iM_hasCourt) (C := RX7) (T := TX7) (N := 48) hx hb hts inX7 hown hK hP 0 rfl rfl 14 (by decide) (hts _ wd_385) (fun _ h9 => h9) rfl dX7_led_3 ?_
    have rg_iM_hasCourt := fb_rng iM_hasCourt
    refine lv_if_eq (tgt := 16) hx hb dX7_led_6 (by decide) (fun c_3305 => ?_) (fun c_3305 => ?_)
    · skip
      have gc_3305 := ti_eq c_3305 rfl kc_0
      exfalso; omega
    · skip
      have gc_3305 := ti_ne c_3305 rfl kc_0
      refine lv_aload_n hx hb dX7_led_9 rfl (lv_at hl 1 rfl) ?_
      have hFc := va_free (wc := [(oc7 oM iM_thrown rM_tape iM_taped iM_size iM_at iM_end iM_token iM_whole iM_nameSize iM_fault iM_place iM_trouble rM_letters iM_failed iM_hasCourt rM_r rM_fresh rM_told rM_read rM_st rM_undone rM_kept iM_undos iM_images rM_fresher iM_fresherSize iM_scale iM_night rM_heardRow rM_cutRow iM_breaths iM_cutMany iM_allBreaths rM_trial rM_words iM_fewestBreaths iM_orderMany iM_orderSum iM_leastOrder rM_often iM_setMany iM_someOf iM_allOf iM_allWeight iM_enoughWeight iM_worthSum iM_firstRest iM_leastDrawn), (arI rM_r kM_r 287 fM_r), (arI rM_told kM_told 90 fM_told), (arI rM_st kM_st 90 fM_st), (arI rM_heardRow kM_heardRow 400 fM_heardRow), (arI rM_cutRow kM_cutRow 800 fM_cutRow)]) hD hS hA [0, 1, 2, 3, 4, 5] rfl
      refine va_calli (va_runV (As := []) (rest := []) ⟨hx, hb, hml, hown, hts⟩ (tX7_heardSet l dC dI _ oM iM_thrown rM_tape iM_taped iM_size iM_at iM_end iM_token iM_whole iM_nameSize iM_fault iM_place iM_trouble rM_letters iM_failed iM_hasCourt rM_r fM_r kM_r rM_fresh rM_told fM_told kM_told rM_read rM_st fM_st kM_st rM_undone rM_kept iM_undos iM_images rM_fresher iM_fresherSize iM_scale iM_night rM_heardRow fM_heardRow kM_heardRow rM_cutRow fM_cutRow kM_cutRow iM_breaths iM_cutMany iM_allBreaths rM_trial rM_words iM_fewestBreaths iM_orderMany iM_orderSum iM_leastOrder rM_often iM_setMany iM_someOf iM_allOf iM_allWeight iM_enoughWeight iM_worthSum iM_firstRest iM_leastDrawn (by first | omega | decide) (by first | omega | decide) (by first | omega | decide) (by first | omega | decide) (by first | omega | decide) (by first | omega | decide) (by first | omega | decide) (by first | omega | decide) (by first | omega | decide) (by first | omega | decide) (by assumption) (by assumption) (by assumption) (by assumption) (by assumption) (by first | omega | decide | assumption | (have q0 := kc_0; have q1 := kc_1; omega) | (intro h; exact absurd h (by decide)))) (cwV 0 hts (wd_V wd_808 wd_809 wd_810 wd_5 (wd_c wd_811)) rfl rfl rfl (by decide +kernel) ⟨Nat.le_of_ble_eq_true rfl, Nat.le_of_ble_eq_true rfl⟩) ⟨Pw.fb, va_recv hK hP (ci := 7) (q0 := 0) rfl rfl, fun U hU hW => Pw.to (hP.sub [0, 1, 2, 3, 4, 5] rfl) (hD.sub [0, 1, 2, 3, 4, 5] (by decide) rfl) (hK.sub [0, 1, 2, 3, 4] rfl) hE hS hFc hU hW⟩ rfl rfl hl.1 rfl (lv_room (Nat.le_of_ble_eq_true rfl)) dX7_led_10 ⟨Nat.le_of_ble_eq_true rfl, Nat.le_of_ble_eq_true rfl⟩) hS (fun q _ h => hFc q h) hFc (fun r u t H locs ht hvm hw hB hz1 hk1 hS => ?_)
      have hru9 := hw.2
      have hw := hw.1
      obtain ⟨x_3306, x_3307, f_3308, f_3309, b_x_3306, b_x_3307, e_x_3306_0, hB⟩ := hB
      obtain ⟨hP, hD, hK⟩ := Bw.go (ws' := [(oc7 oM iM_thrown rM_tape iM_taped iM_size iM_at iM_end iM_token iM_whole iM_nameSize iM_fault iM_place iM_trouble rM_letters iM_failed iM_hasCourt rM_r rM_fresh rM_told rM_read rM_st rM_undone rM_kept iM_undos iM_images rM_fresher iM_fresherSize iM_scale iM_night rM_heardRow rM_cutRow x_3306 x_3307 iM_allBreaths rM_trial rM_words iM_fewestBreaths iM_orderMany iM_orderSum iM_leastOrder rM_often iM_setMany iM_someOf iM_allOf iM_allWeight iM_enoughWeight iM_worthSum iM_firstRest iM_leastDrawn), (arI rM_r kM_r 287 fM_r), (arI rM_told kM_told 90 fM_told), (arI rM_st kM_st 90 fM_st), (arI rM_heardRow kM_heardRow 400 f_3308), (arI rM_cutRow kM_cutRow 800 f_3309)]) (tys' := [(kM_r, .int), (kM_told, .int), (kM_st, .int), (kM_heardRow, .int), (kM_cutRow, .int)]) hB rfl ht hvm hP hD hK [0, 1, 2, 3, 4, 5] [] rfl (by decide) (by decide) [] hk1 hFc rfl rfl rfl
      clear hz1 hk1 hvm ht hB
      have rg_x_3306 := fb_rng x_3306
      have rg_x_3307 := fb_rng x_3307
      obtain ⟨x_3310, rfl⟩ : ∃ z, z = r := ⟨_, rfl⟩
      have rg_x_3310 := fb_rng x_3310
      refine lv_goto (tgt := 17) hx hb dX7_led_13 (by decide) ?_
      refine lv_istore_n (lv' := [(3, .int x_3310), (2, .int 0), (0, .ref oM), (1, .int p0)]) hx hb dX7_led_17 rfl hl (by decide) rfl (fun ls hl => ?_)
      refine lv_iconst (v := 0) hx hb dX7_led_18 (by decide) ?_
      refine lv_istore (lv' := [(4, .int 0), (3, .int x_3310), (2, .int 0), (0, .ref oM), (1, .int p0)]) hx hb dX7_led_19 hl (by decide) rfl (fun ls hl => ?_)
      have hl := lv_sub hl (l' := [(4, .int 0), (3, .int x_3310), (2, .int 0), (0, .ref oM), (1, .int p0)]) [0, 1, 2, 3, 4] rfl
      have key_n_3313 : ∀ (n_3313 : Nat) (z_3311 : Int32) (z_3312 : Int32) (H : Heap) (locs : List Loc) (ls : Array Slot), (0 ≤ z_3311.toInt ∧ z_3311.toInt ≤ 2147483647) → (2147483647 - z_3311.toInt).toNat < n_3313 → va_P (dC, dI) vwCl [(oc7 oM iM_thrown rM_tape iM_taped iM_size iM_at iM_end iM_token iM_whole iM_nameSize iM_fault iM_place iM_trouble rM_letters iM_failed iM_hasCourt rM_r rM_fresh rM_told rM_read rM_st rM_undone rM_kept iM_undos iM_images rM_fresher iM_fresherSize iM_scale iM_night rM_heardRow rM_cutRow x_3306 x_3307 iM_allBreaths rM_trial rM_words iM_fewestBreaths iM_orderMany iM_orderSum iM_leastOrder rM_often iM_setMany iM_someOf iM_allOf iM_allWeight iM_enoughWeight iM_worthSum iM_firstRest iM_leastDrawn), (arI rM_r kM_r 287 fM_r), (arI rM_told kM_told 90 fM_told), (arI rM_st kM_st 90 fM_st), (arI rM_heardRow kM_heardRow 400 f_3308), (arI rM_cutRow kM_cutRow 800 f_3309)] H → va_D A [(oc7 oM iM_thrown rM_tape iM_taped iM_size iM_at iM_end iM_token iM_whole iM_nameSize iM_fault iM_place iM_trouble rM_letters iM_failed iM_hasCourt rM_r rM_fresh rM_told rM_read rM_st rM_undone rM_kept iM_undos iM_images rM_fresher iM_fresherSize iM_scale iM_night rM_heardRow rM_cutRow x_3306 x_3307 iM_allBreaths rM_trial rM_words iM_fewestBreaths iM_orderMany iM_orderSum iM_leastOrder rM_often iM_setMany iM_someOf iM_allOf iM_allWeight iM_enoughWeight iM_worthSum iM_firstRest iM_leastDrawn), (arI rM_r kM_r 287 fM_r), (arI rM_told kM_told 90 fM_told), (arI rM_st kM_st 90 fM_st), (arI rM_heardRow kM_heardRow 400 f_3308), (arI rM_cutRow kM_cutRow 800 f_3309)] → va_S A s.heap H locs → lv_has ls 5 [(4, .int z_3311), (3, .int x_3310), (2, .int z_3312), (0, .ref oM), (1, .int p0)] → W p l e (headSpec (Cond.code yX7_led cX7_led 5 (some .int) :: wG) ({ frames := 23, cells := 0, slots := 0, locals := 647 })).room s m ([.ref oM, .int p0] : List Value).toArray below meth c H locs 0 0 (MQ below (va_Qi (fun (r : Int32) (_ : Nat) => True ∧ True) (fun (_ : Nat) (t : State) => ∃ (niM_thrown : Int32) (niM_breaths : Int32) (niM_cutMany : Int32) (nfM_heardRow : Nat → Int32) (nfM_cutRow : Nat → Int32), (0 ≤ niM_thrown.toInt ∧ niM_thrown.toInt ≤ 1) ∧ (0 ≤ niM_breaths.toInt ∧ niM_breaths.toInt ≤ 399) ∧ (0 ≤ niM_cutMany.toInt ∧ niM_cutMany.toInt ≤ 399) ∧ Bw dC dI A [(oc7 oM niM_thrown rM_tape iM_taped iM_size iM_at iM_end iM_token iM_whole iM_nameSize iM_fault iM_place iM_trouble rM_letters iM_failed iM_hasCourt rM_r rM_fresh rM_told rM_read rM_st rM_undone rM_kept iM_undos iM_images rM_fresher iM_fresherSize iM_scale iM_night rM_heardRow rM_cutRow niM_breaths niM_cutMany iM_allBreaths rM_trial rM_words iM_fewestBreaths iM_orderMany iM_orderSum iM_leastOrder rM_often iM_setMany iM_someOf iM_allOf iM_allWeight iM_enoughWeight iM_worthSum iM_firstRest iM_leastDrawn), (arI rM_r kM_r 287 fM_r), (arI rM_told kM_told 90 fM_told), (arI rM_st kM_st 90 fM_st), (arI rM_heardRow kM_heardRow 400 nfM_heardRow), (arI rM_cutRow kM_cutRow 800 nfM_cutRow)] [(kM_r, .int), (kM_told, .int), (kM_st, .int), (kM_heardRow, .int), (kM_cutRow, .int)] t) A) ([.ref oM, .int p0] : List Value).toArray s 0 0 A) (F0 m 21 ls []) := by
        intro n_3313
        induction n_3313 with
        | zero => intro z_3311 z_3312 H locs ls hi0_n_3313 hm; exact absurd hm (by omega)
        | succ n_3313 ih_n_3313 =>
          intro z_3311 z_3312 H locs ls hi0_n_3313 hm hP hD hS hl
          have rg_z_3311 := fb_rng z_3311
          have rg_z_3312 := fb_rng z_3312
          refine lv_aload_n hx hb dX7_led_21 rfl (lv_at hl 3 rfl) ?_
          refine va_get (D := (dC, dI)) (ci := 7) (v := .int iM_hasCourt) (C := RX7) (T := TX7) (N := 48) hx hb hts inX7 hown hK hP 0 rfl rfl 14 (by decide) (hts _ wd_385) (fun _ h9 => h9) rfl dX7_led_22 ?_
          refine lv_if_eq (tgt := 86) hx hb dX7_led_25 (by decide) (fun c_3314 => ?_) (fun c_3314 => ?_)
          · skip
            have gc_3314 := ti_eq c_3314 rfl kc_0
            exfalso; omega
          · skip
            have gc_3314 := ti_ne c_3314 rfl kc_0
            refine lv_iload hx hb dX7_led_28 (lv_at hl 0 rfl) ?_
            refine lv_aload_n hx hb dX7_led_30 rfl (lv_at hl 3 rfl) ?_
            refine va_get (D := (dC, dI)) (ci := 7) (v := .ref rM_r) (C := RX7) (T := TX7) (N := 48) hx hb hts inX7 hown hK hP 0 rfl rfl 15 (by decide) (hts _ wd_155) (fun _ h9 => h9) rfl dX7_led_31 ?_
            refine lv_iconst (v := 1) hx hb dX7_led_34 (by decide) ?_
            refine va_iald hx hb hK hP 1 0 rfl rfl (by unfold vp_in; decide) dX7_led_35 ?_
            refine lv_topi (fun x_3315 ex_3315 => ?_)
            have rg_x_3315 := fb_rng x_3315
            have cx_3315 : (fM_r 1).toInt = x_3315.toInt := congrArg Int32.toInt (show fM_r 1 = x_3315 from ex_3315.symm)
            have sx_3315 := r_R.nodes
            refine lv_icmp_ge (tgt := 86) hx hb dX7_led_36 (by decide) (fun c_3316 => ?_) (fun c_3316 => ?_)
            · skip
              have gc_3316 := ti_le c_3316 rfl rfl
              refine lv_aload_n hx hb dX7_led_86 rfl (lv_at hl 3 rfl) ?_
              refine lv_iconst (v := 1) hx hb dX7_led_87 (by decide) ?_
              refine va_put (D := (dC, dI)) (ci := 7) (v := .int 1) (ty := .int) (C := RX7) (T := TX7) (N := 48) hx hb hts inX7 tyX7 tyX7_ok nmX7 hown hK hP hD hS 0 rfl rfl 0 (by decide) (hts _ wd_184) (fun _ h9 => h9) rfl (by decide +kernel) rfl rfl (Nat.le_of_ble_eq_true rfl) dX7_led_88 (fun H locs hP hD hS => ?_)
              obtain ⟨hP, hD⟩ := wl2 (ws' := [(oc7 oM 1 rM_tape iM_taped iM_size iM_at iM_end iM_token iM_whole iM_nameSize iM_fault iM_place iM_trouble rM_letters iM_failed iM_hasCourt rM_r rM_fresh rM_told rM_read rM_st rM_undone rM_kept iM_undos iM_images rM_fresher iM_fresherSize iM_scale iM_night rM_heardRow rM_cutRow x_3306 x_3307 iM_allBreaths rM_trial rM_words iM_fewestBreaths iM_orderMany iM_orderSum iM_leastOrder rM_often iM_setMany iM_someOf iM_allOf iM_allWeight iM_enoughWeight iM_worthSum iM_firstRest iM_leastDrawn), (arI rM_r kM_r 287 fM_r), (arI rM_told kM_told 90 fM_told), (arI rM_st kM_st 90 fM_st), (arI rM_heardRow kM_heardRow 400 f_3308), (arI rM_cutRow kM_cutRow 800 f_3309)]) hP hD rfl
              refine lv_iconst (v := 0) hx hb dX7_led_91 (by decide) ?_
              exact W.iret hx hb hr (fun t ht hW => ⟨⟨_, 0, rfl, ⟨trivial, trivial⟩, ⟨1, x_3306, x_3307, f_3308, f_3309, (by decide), b_x_3306, b_x_3307, Bw.to (hP.sub [0, 1, 2, 3, 4, 5] rfl) (hD.sub [0, 1, 2, 3, 4, 5] (by decide) rfl) (hK.sub [0, 1, 2, 3, 4] rfl) ht hW⟩⟩, hS.F ht⟩) hS.2.2 dX7_led_92
            · skip
              have gc_3316 := ti_nle c_3316 rfl rfl
              refine lv_aload_n hx hb dX7_led_39 rfl (lv_at hl 3 rfl) ?_
              refine va_get (D := (dC, dI)) (ci := 7) (v := .ref rM_r) (C := RX7) (T := TX7) (N := 48) hx hb hts inX7 hown hK hP 0 rfl rfl 15 (by decide) (hts _ wd_155) (fun _ h9 => h9) rfl dX7_led_40 ?_
              refine lv_bipush (v := 9) hx hb dX7_led_43 (by decide) ?_
              refine lv_iload hx hb dX7_led_45 (lv_at hl 0 rfl) ?_
              refine lv_iadd hx hb dX7_led_47 ?_
              refine lv_topi (fun x_3317 ex_3317 => ?_)
              have vx_3317 : x_3317.toInt = z_3311.toInt + 9 := by have q := ti_add ex_3317 kc_9 rfl (by omega) (by omega); omega
              refine va_iald hx hb hK hP 1 0 rfl rfl (ti_in vx_3317 (by omega) (by omega)) dX7_led_48 ?_
              refine lv_topi (fun x_3318 ex_3318 => ?_)
              have rg_x_3318 := fb_rng x_3318
              have kx_3318 : (fM_r x_3317.toNatClampNeg).toInt = x_3318.toInt := by rw [ex_3318]
              have cx_3318 : (fM_r (9 + z_3311.toNatClampNeg)).toInt = x_3318.toInt := by rw [show 9 + z_3311.toNatClampNeg = x_3317.toNatClampNeg from by have q9 := ti_cl (x := x_3317) vx_3317 (by omega); have q_z_3311 := ti_cl (x := z_3311) rfl (by omega); omega]; exact kx_3318
              have sx_3318 := r_R.kind x_3317.toNatClampNeg (by have q9 := ti_cl (x := x_3317) vx_3317 (by omega); omega) (by have q9 := ti_cl (x := x_3317) vx_3317 (by omega); omega)
              refine lv_if_ne (tgt := 80) hx hb dX7_led_49 (by decide) (fun c_3319 => ?_) (fun c_3319 => ?_)
              · skip
                have gc_3319 := ti_ne c_3319 rfl kc_0
                obtain ⟨x_3320, ex_3320⟩ : ∃ z : Int32, z = z_3311 + Int32.ofInt 1 := ⟨_, rfl⟩
                have vx_3320 : x_3320.toInt = z_3311.toInt + 1 := by have q := ti_add (y := 1) ex_3320 rfl kc_1 (by omega) (by omega); omega
                refine lv_iinc (v := x_3320) (lv' := [(4, .int x_3320), (3, .int x_3310), (2, .int z_3312), (0, .ref oM), (1, .int p0)]) hx hb dX7_led_80 hl (k := 0) rfl ex_3320.symm (by decide) rfl (fun ls hl => ?_)
                refine lv_goto (tgt := 21) hx hb dX7_led_83 (by decide) ?_
                exact ih_n_3313 x_3320 z_3312 _ _ _  (by first | omega | decide | assumption) (by omega) (hP.sub [0, 1, 2, 3, 4, 5] rfl) (hD.sub [0, 1, 2, 3, 4, 5] (by decide) rfl) hS (lv_sub hl [0, 1, 2, 3, 4] rfl)
              · skip
                have gc_3319 := ti_eq c_3319 rfl kc_0
                refine lv_iload_n hx hb dX7_led_52 rfl (lv_at hl 1 rfl) ?_
                refine lv_iload hx hb dX7_led_53 (lv_at hl 0 rfl) ?_
                have hFc : ∀ q, va_A [] _ q → A q := fun q h => hA q (Nat.le_trans hS.1 (va_nilA h))
                refine va_calli (va_runS (As := [.int x_3310, .int z_3311]) (rest := []) ⟨hx, hb, hml, hown, hts⟩ (tX7_hasBit l dC dI _ x_3310 z_3311 ) (va_cwS 2 hts (wd_S wd_968 wd_969 wd_5 (wd_c wd_970)) rfl rfl rfl (by decide +kernel) ⟨Nat.le_of_ble_eq_true rfl, Nat.le_of_ble_eq_true rfl⟩) ⟨Pw.fb, fun U hU hW => Pn.to hK hE hS hA hU hW⟩ rfl rfl hl.1 rfl (lv_room (Nat.le_of_ble_eq_true rfl)) dX7_led_55 ⟨Nat.le_of_ble_eq_true rfl, Nat.le_of_ble_eq_true rfl⟩) hS (fun q _ h => hFc q h) hFc (fun r u t H locs ht hvm hw hB hz1 hk1 hS => ?_)
                obtain ⟨hP, hD, hK⟩ := Bw.same ht hvm hP hD hK hk1 hFc
                clear hz1 hk1 hvm ht hB
                have hq9 := hw.2
                have hw := hw.1
                obtain ⟨x_3321, rfl⟩ : ∃ z, z = r := ⟨_, rfl⟩
                have rg_x_3321 := fb_rng x_3321
                have bx_3321 := hw.1
                have dx_3321 := bz_ti bx_3321
                refine lv_if_eq (tgt := 64) hx hb dX7_led_58 (by decide) (fun c_3322 => ?_) (fun c_3322 => ?_)
                · skip
                  have gc_3322 := ti_eq c_3322 rfl kc_0
                  refine lv_iload_n hx hb dX7_led_64 rfl (lv_at hl 2 rfl) ?_
                  refine lv_iload_n hx hb dX7_led_65 rfl (lv_at hl 4 rfl) ?_
                  refine lv_icmp_ne (tgt := 77) hx hb dX7_led_66 (by decide) (fun c_3323 => ?_) (fun c_3323 => ?_)
                  · skip
                    have gc_3323 := ti_ne c_3323 rfl rfl
                    obtain ⟨x_3324, ex_3324⟩ : ∃ z : Int32, z = z_3312 + Int32.ofInt 1 := ⟨_, rfl⟩
                    have rg_x_3324 := fb_rng x_3324
                    refine lv_iinc (v := x_3324) (lv' := [(2, .int x_3324), (4, .int z_3311), (3, .int x_3310), (0, .ref oM), (1, .int p0)]) hx hb dX7_led_77 hl (k := 2) rfl ex_3324.symm (by decide) rfl (fun ls hl => ?_)
                    obtain ⟨x_3325, ex_3325⟩ : ∃ z : Int32, z = z_3311 + Int32.ofInt 1 := ⟨_, rfl⟩
                    have vx_3325 : x_3325.toInt = z_3311.toInt + 1 := by have q := ti_add (y := 1) ex_3325 rfl kc_1 (by omega) (by omega); omega
                    refine lv_iinc (v := x_3325) (lv' := [(4, .int x_3325), (2, .int x_3324), (3, .int x_3310), (0, .ref oM), (1, .int p0)]) hx hb dX7_led_80 hl (k := 1) rfl ex_3325.symm (by decide) rfl (fun ls hl => ?_)
                    refine lv_goto (tgt := 21) hx hb dX7_led_83 (by decide) ?_
                    exact ih_n_3313 x_3325 x_3324 _ _ _  (by first | omega | decide | assumption) (by omega) (hP.sub [0, 1, 2, 3, 4, 5] rfl) (hD.sub [0, 1, 2, 3, 4, 5] (by decide) rfl) hS (lv_sub hl [0, 2, 1, 3, 4] rfl)
                  · skip
                    have gc_3323 := ti_eq c_3323 rfl rfl
                    refine lv_aload_n hx hb dX7_led_69 rfl (lv_at hl 3 rfl) ?_
                    refine lv_iconst (v := 0) hx hb dX7_led_70 (by decide) ?_
                    refine va_put (D := (dC, dI)) (ci := 7) (v := .int 0) (ty := .int) (C := RX7) (T := TX7) (N := 48) hx hb hts inX7 tyX7 tyX7_ok nmX7 hown hK hP hD hS 0 rfl rfl 0 (by decide) (hts _ wd_184) (fun _ h9 => h9) rfl (by decide +kernel) rfl rfl (Nat.le_of_ble_eq_true rfl) dX7_led_71 (fun H locs hP hD hS => ?_)
                    obtain ⟨hP, hD⟩ := wl2 (ws' := [(oc7 oM 0 rM_tape iM_taped iM_size iM_at iM_end iM_token iM_whole iM_nameSize iM_fault iM_place iM_trouble rM_letters iM_failed iM_hasCourt rM_r rM_fresh rM_told rM_read rM_st rM_undone rM_kept iM_undos iM_images rM_fresher iM_fresherSize iM_scale iM_night rM_heardRow rM_cutRow x_3306 x_3307 iM_allBreaths rM_trial rM_words iM_fewestBreaths iM_orderMany iM_orderSum iM_leastOrder rM_often iM_setMany iM_someOf iM_allOf iM_allWeight iM_enoughWeight iM_worthSum iM_firstRest iM_leastDrawn), (arI rM_r kM_r 287 fM_r), (arI rM_told kM_told 90 fM_told), (arI rM_st kM_st 90 fM_st), (arI rM_heardRow kM_heardRow 400 f_3308), (arI rM_cutRow kM_cutRow 800 f_3309)]) hP hD rfl
                    refine lv_iload hx hb dX7_led_74 (lv_at hl 0 rfl) ?_
                    exact W.iret hx hb hr (fun t ht hW => ⟨⟨_, 0, rfl, ⟨trivial, trivial⟩, ⟨0, x_3306, x_3307, f_3308, f_3309, (by decide), b_x_3306, b_x_3307, Bw.to (hP.sub [0, 1, 2, 3, 4, 5] rfl) (hD.sub [0, 1, 2, 3, 4, 5] (by decide) rfl) (hK.sub [0, 1, 2, 3, 4] rfl) ht hW⟩⟩, hS.F ht⟩) hS.2.2 dX7_led_76
                · skip
                  have gc_3322 := ti_ne c_3322 rfl kc_0
                  refine lv_goto (tgt := 80) hx hb dX7_led_61 (by decide) ?_
                  obtain ⟨x_3326, ex_3326⟩ : ∃ z : Int32, z = z_3311 + Int32.ofInt 1 := ⟨_, rfl⟩
                  have vx_3326 : x_3326.toInt = z_3311.toInt + 1 := by have q := ti_add (y := 1) ex_3326 rfl kc_1 (by omega) (by omega); omega
                  refine lv_iinc (v := x_3326) (lv' := [(4, .int x_3326), (3, .int x_3310), (2, .int z_3312), (0, .ref oM), (1, .int p0)]) hx hb dX7_led_80 hl (k := 0) rfl ex_3326.symm (by decide) rfl (fun ls hl => ?_)
                  refine lv_goto (tgt := 21) hx hb dX7_led_83 (by decide) ?_
                  exact ih_n_3313 x_3326 z_3312 _ _ _  (by first | omega | decide | assumption) (by omega) (hP.sub [0, 1, 2, 3, 4, 5] rfl) (hD.sub [0, 1, 2, 3, 4, 5] (by decide) rfl) hS (lv_sub hl [0, 1, 2, 3, 4] rfl)
      exact key_n_3313 (((2147483647 - (0 : Int32).toInt).toNat) + 1) 0 0 _ _ _  (by first | omega | decide | assumption | (have q0 := kc_0; have q1 := kc_1; omega)) (by omega) hP hD hS hl
