set_option maxHeartbeats 4000000 in
set_option maxRecDepth 100000 in
theorem tX7_firstOf (l : Launch) (dC : Nat → ClassId) (dI : Nat → Nat → Nat) (sz : Nat) (oM : Nat) (iM_thrown : Int32) (rM_tape : Nat) (iM_taped : Int32) (iM_size : Int32) (iM_at : Int32) (iM_end : Int32) (iM_token : Int32) (iM_whole : Int32) (iM_nameSize : Int32) (iM_fault : Int32) (iM_place : Int32) (iM_trouble : Int32) (rM_letters : Nat) (iM_failed : Int32) (iM_hasCourt : Int32) (rM_r : Nat) (fM_r : Nat → Int32) (kM_r : ClassId) (rM_fresh : Nat) (rM_told : Nat) (fM_told : Nat → Int32) (kM_told : ClassId) (rM_read : Nat) (rM_st : Nat) (fM_st : Nat → Int32) (kM_st : ClassId) (rM_undone : Nat) (rM_kept : Nat) (iM_undos : Int32) (iM_images : Int32) (rM_fresher : Nat) (iM_fresherSize : Int32) (iM_scale : Int32) (iM_night : Int32) (rM_heardRow : Nat) (fM_heardRow : Nat → Int32) (kM_heardRow : ClassId) (rM_cutRow : Nat) (fM_cutRow : Nat → Int32) (kM_cutRow : ClassId) (iM_breaths : Int32) (iM_cutMany : Int32) (iM_allBreaths : Int32) (rM_trial : Nat) (fM_trial : Nat → Int32) (kM_trial : ClassId) (rM_words : Nat) (iM_fewestBreaths : Int32) (iM_orderMany : Int32) (iM_orderSum : Int32) (iM_leastOrder : Int32) (rM_often : Nat) (iM_setMany : Int32) (iM_someOf : Int32) (iM_allOf : Int32) (iM_allWeight : Int64) (iM_enoughWeight : Int64) (iM_worthSum : Int64) (iM_firstRest : Int32) (iM_leastDrawn : Int32) (p0 : Int32) (b_iM_taped : 0 ≤ iM_taped.toInt ∧ iM_taped.toInt ≤ 900) (b_iM_size : 0 ≤ iM_size.toInt ∧ iM_size.toInt ≤ 900) (b_iM_end : 0 ≤ iM_end.toInt ∧ iM_end.toInt ≤ 900) (b_iM_failed : 0 ≤ iM_failed.toInt ∧ iM_failed.toInt ≤ 1) (b_iM_hasCourt : 0 ≤ iM_hasCourt.toInt ∧ iM_hasCourt.toInt ≤ 1) (b_iM_undos : 0 ≤ iM_undos.toInt ∧ iM_undos.toInt ≤ 16) (b_iM_images : 0 ≤ iM_images.toInt ∧ iM_images.toInt ≤ 3) (b_iM_scale : 1 ≤ iM_scale.toInt ∧ iM_scale.toInt ≤ 1296) (b_iM_breaths : 0 ≤ iM_breaths.toInt ∧ iM_breaths.toInt ≤ 399) (b_iM_cutMany : 0 ≤ iM_cutMany.toInt ∧ iM_cutMany.toInt ≤ 399) (r_R : ROk fM_r) (r_C : iM_hasCourt.toInt ≤ 0 ∨ (1 ≤ (fM_r 1).toInt ∧ 0 ≤ (fM_r 6).toInt ∧ (fM_r 6).toInt < (fM_r 1).toInt)) (r_st : RowOk fM_r fM_st) (r_told : RowOk fM_r fM_told) (r_wst : WorOk fM_st) (hk0 : 0 ≤ p0.toInt ∧ p0.toInt < (fM_r 1).toInt) (hth : 0 ≤ (fM_r 6).toInt ∧ (fM_r 6).toInt < (fM_r 1).toInt) : Met l yX7_firstOf (Cond.code yX7_firstOf cX7_firstOf 5 (some .int) :: wG) ({ frames := 22, cells := 0, slots := 0, locals := 624 }) (va_Pc [.ref oM, .int p0] (Pw dC dI sz [(oc7 oM iM_thrown rM_tape iM_taped iM_size iM_at iM_end iM_token iM_whole iM_nameSize iM_fault iM_place iM_trouble rM_letters iM_failed iM_hasCourt rM_r rM_fresh rM_told rM_read rM_st rM_undone rM_kept iM_undos iM_images rM_fresher iM_fresherSize iM_scale iM_night rM_heardRow rM_cutRow iM_breaths iM_cutMany iM_allBreaths rM_trial rM_words iM_fewestBreaths iM_orderMany iM_orderSum iM_leastOrder rM_often iM_setMany iM_someOf iM_allOf iM_allWeight iM_enoughWeight iM_worthSum iM_firstRest iM_leastDrawn), (arI rM_r kM_r 287 fM_r), (arI rM_told kM_told 90 fM_told), (arI rM_st kM_st 90 fM_st), (arI rM_heardRow kM_heardRow 400 fM_heardRow), (arI rM_cutRow kM_cutRow 800 fM_cutRow), (arI rM_trial kM_trial 90 fM_trial)] [(kM_r, .int), (kM_told, .int), (kM_st, .int), (kM_heardRow, .int), (kM_cutRow, .int), (kM_trial, .int)])) (va_Qi (fun (r : Int32) (u : Nat) => (True ∧ True) ∧ r = Int32.ofNat u) (fun (u : Nat) (t : State) => ∃ (niM_breaths : Int32) (niM_cutMany : Int32) (niM_fewestBreaths : Int32) (nfM_heardRow : Nat → Int32) (nfM_cutRow : Nat → Int32) (nfM_trial : Nat → Int32), (0 ≤ niM_breaths.toInt ∧ niM_breaths.toInt ≤ 399) ∧ (0 ≤ niM_cutMany.toInt ∧ niM_cutMany.toInt ≤ 399) ∧ (PX7_firstOf fM_r fM_told fM_st iM_scale fM_heardRow fM_cutRow iM_breaths iM_cutMany fM_trial p0 = (Int32.ofNat u, niM_breaths, niM_cutMany, niM_fewestBreaths, nfM_heardRow, nfM_cutRow, nfM_trial)) ∧ Bw dC dI (va_A [(oc7 oM iM_thrown rM_tape iM_taped iM_size iM_at iM_end iM_token iM_whole iM_nameSize iM_fault iM_place iM_trouble rM_letters iM_failed iM_hasCourt rM_r rM_fresh rM_told rM_read rM_st rM_undone rM_kept iM_undos iM_images rM_fresher iM_fresherSize iM_scale iM_night rM_heardRow rM_cutRow iM_breaths iM_cutMany iM_allBreaths rM_trial rM_words iM_fewestBreaths iM_orderMany iM_orderSum iM_leastOrder rM_often iM_setMany iM_someOf iM_allOf iM_allWeight iM_enoughWeight iM_worthSum iM_firstRest iM_leastDrawn), (arI rM_r kM_r 287 fM_r), (arI rM_told kM_told 90 fM_told), (arI rM_st kM_st 90 fM_st), (arI rM_heardRow kM_heardRow 400 fM_heardRow), (arI rM_cutRow kM_cutRow 800 fM_cutRow), (arI rM_trial kM_trial 90 fM_trial)] sz) [(oc7 oM iM_thrown rM_tape iM_taped iM_size iM_at iM_end iM_token iM_whole iM_nameSize iM_fault iM_place iM_trouble rM_letters iM_failed iM_hasCourt rM_r rM_fresh rM_told rM_read rM_st rM_undone rM_kept iM_undos iM_images rM_fresher iM_fresherSize iM_scale iM_night rM_heardRow rM_cutRow niM_breaths niM_cutMany iM_allBreaths rM_trial rM_words niM_fewestBreaths iM_orderMany iM_orderSum iM_leastOrder rM_often iM_setMany iM_someOf iM_allOf iM_allWeight iM_enoughWeight iM_worthSum iM_firstRest iM_leastDrawn), (arI rM_r kM_r 287 fM_r), (arI rM_told kM_told 90 fM_told), (arI rM_st kM_st 90 fM_st), (arI rM_heardRow kM_heardRow 400 nfM_heardRow), (arI rM_cutRow kM_cutRow 800 nfM_cutRow), (arI rM_trial kM_trial 90 nfM_trial)] [(kM_r, .int), (kM_told, .int), (kM_st, .int), (kM_heardRow, .int), (kM_cutRow, .int), (kM_trial, .int)] t) (va_A [(oc7 oM iM_thrown rM_tape iM_taped iM_size iM_at iM_end iM_token iM_whole iM_nameSize iM_fault iM_place iM_trouble rM_letters iM_failed iM_hasCourt rM_r rM_fresh rM_told rM_read rM_st rM_undone rM_kept iM_undos iM_images rM_fresher iM_fresherSize iM_scale iM_night rM_heardRow rM_cutRow iM_breaths iM_cutMany iM_allBreaths rM_trial rM_words iM_fewestBreaths iM_orderMany iM_orderSum iM_leastOrder rM_often iM_setMany iM_someOf iM_allOf iM_allWeight iM_enoughWeight iM_worthSum iM_firstRest iM_leastDrawn), (arI rM_r kM_r 287 fM_r), (arI rM_told kM_told 90 fM_told), (arI rM_st kM_st 90 fM_st), (arI rM_heardRow kM_heardRow 400 fM_heardRow), (arI rM_cutRow kM_cutRow 800 fM_cutRow), (arI rM_trial kM_trial 90 fM_trial)] sz)) 0 0 (va_A [(oc7 oM iM_thrown rM_tape iM_taped iM_size iM_at iM_end iM_token iM_whole iM_nameSize iM_fault iM_place iM_trouble rM_letters iM_failed iM_hasCourt rM_r rM_fresh rM_told rM_read rM_st rM_undone rM_kept iM_undos iM_images rM_fresher iM_fresherSize iM_scale iM_night rM_heardRow rM_cutRow iM_breaths iM_cutMany iM_allBreaths rM_trial rM_words iM_fewestBreaths iM_orderMany iM_orderSum iM_leastOrder rM_often iM_setMany iM_someOf iM_allOf iM_allWeight iM_enoughWeight iM_worthSum iM_firstRest iM_leastDrawn), (arI rM_r kM_r 287 fM_r), (arI rM_told kM_told 90 fM_told), (arI rM_st kM_st 90 fM_st), (arI rM_heardRow kM_heardRow 400 fM_heardRow), (arI rM_cutRow kM_cutRow 800 fM_cutRow), (arI rM_trial kM_trial 90 fM_trial)] sz) := by
  refine Met.ofW (cc := cX7_firstOf) (maxL := 5) (ret := (some .int)) pnX7 rfl ?_
  intro p e s m args below meth c s₁ B hml hv
  obtain ⟨rfl, hsz, hP, hK, hD0, hE⟩ := hv
  have hx := B.exec
  have hb := B.bytes
  have hr := B.returns
  have hts : ∀ w ∈ wG, w.before ([.ref oM, .int p0] : List Value).toArray s = true := fun w h => atoms_spec (ws := Cond.code yX7_firstOf cX7_firstOf 5 (some .int) :: wG) B.pre w (List.mem_cons_of_mem _ h)
  have hown : s.vm.findClass RX7 = some m.cls := own_of B.named rfl
  have hlocks := B.notSynchronized
  subst hsz
  have hD := hD0.self (sz := s.heap.size)
  generalize hAe : va_A [(oc7 oM iM_thrown rM_tape iM_taped iM_size iM_at iM_end iM_token iM_whole iM_nameSize iM_fault iM_place iM_trouble rM_letters iM_failed iM_hasCourt rM_r rM_fresh rM_told rM_read rM_st rM_undone rM_kept iM_undos iM_images rM_fresher iM_fresherSize iM_scale iM_night rM_heardRow rM_cutRow iM_breaths iM_cutMany iM_allBreaths rM_trial rM_words iM_fewestBreaths iM_orderMany iM_orderSum iM_leastOrder rM_often iM_setMany iM_someOf iM_allOf iM_allWeight iM_enoughWeight iM_worthSum iM_firstRest iM_leastDrawn), (arI rM_r kM_r 287 fM_r), (arI rM_told kM_told 90 fM_told), (arI rM_st kM_st 90 fM_st), (arI rM_heardRow kM_heardRow 400 fM_heardRow), (arI rM_cutRow kM_cutRow 800 fM_cutRow), (arI rM_trial kM_trial 90 fM_trial)] s.heap.size = A at hD hE ⊢
  have hA : ∀ q : Nat, s.heap.size ≤ q → A q := fun q h => by rw [← hAe]; exact Or.inr h
  have hS : va_S A s.heap s.heap [] := va_S.rf
  have hl := lv_entry ([.ref oM, .int p0]) (n := 5) (Nat.le_of_ble_eq_true rfl)
  rw [lg_entry_eq]
  generalize (lg_sl ([.ref oM, .int p0]) ++ List.replicate (5 - (lg_sl ([.ref oM, .int p0])).length) Slot.unset).toArray = ls at hl ⊢
  have hl : lv_has ls 5 [(0, .ref oM), (1, .int p0)] := hl
  have hG := PX7_firstOf_eq fM_r fM_told fM_st iM_scale fM_heardRow fM_cutRow iM_breaths iM_cutMany fM_trial p0
  have s_slips := r_R.slips
  have s_nodes := r_R.nodes
  have s_uns := r_R.uns
  have q_p0 := ti_cl (x := p0) rfl hk0.1
  have mn_p0 := r_R.many (27 + p0.toNatClampNeg) (Nat.le_add_right _ _) (om_6c263690 (ti_cl (x := p0) rfl hk0.1) hk0.2 s_nodes.2)
  have kn_p0 := r_R.kind (9 + p0.toNatClampNeg) (Nat.le_add_right _ _) (om_57ce868b (ti_cl (x := p0) rfl hk0.1) hk0.2 s_nodes.2)
  have in_p0 := r_R.inner p0.toNatClampNeg (om_05d4ad0a (ti_cl (x := p0) rfl hk0.1) hk0.2)
  refine lv_bipush (v := (-2)) hx hb dX7_firstOf_0 (by decide) ?_
  refine lv_istore_n (lv' := [(2, .int (-2)), (0, .ref oM), (1, .int p0)]) hx hb dX7_firstOf_2 rfl hl (by decide) rfl (fun ls hl => ?_)
  refine lv_aload_n hx hb dX7_firstOf_3 rfl (lv_at hl 1 rfl) ?_
  refine lv_bipush (v := (-2)) hx hb dX7_firstOf_4 (by decide) ?_
  refine va_put (D := (dC, dI)) (ci := 7) (v := .int (-2)) (ty := .int) (C := RX7) (T := TX7) (N := 48) hx hb hts inX7 tyX7 tyX7_ok nmX7 hown hK hP hD hS 0 rfl rfl 35 (by decide) (hts _ wd_1031) (fun _ h9 => h9) rfl (by decide +kernel) rfl rfl (Nat.le_of_ble_eq_true rfl) dX7_firstOf_6 (fun H locs hP hD hS => ?_)
  obtain ⟨hP, hD⟩ := wl2 (ws' := [(oc7 oM iM_thrown rM_tape iM_taped iM_size iM_at iM_end iM_token iM_whole iM_nameSize iM_fault iM_place iM_trouble rM_letters iM_failed iM_hasCourt rM_r rM_fresh rM_told rM_read rM_st rM_undone rM_kept iM_undos iM_images rM_fresher iM_fresherSize iM_scale iM_night rM_heardRow rM_cutRow iM_breaths iM_cutMany iM_allBreaths rM_trial rM_words (-2) iM_orderMany iM_orderSum iM_leastOrder rM_often iM_setMany iM_someOf iM_allOf iM_allWeight iM_enoughWeight iM_worthSum iM_firstRest iM_leastDrawn), (arI rM_r kM_r 287 fM_r), (arI rM_told kM_told 90 fM_told), (arI rM_st kM_st 90 fM_st), (arI rM_heardRow kM_heardRow 400 fM_heardRow), (arI rM_cutRow kM_cutRow 800 fM_cutRow), (arI rM_trial kM_trial 90 fM_trial)]) hP hD rfl
  refine lv_iconst (v := 0) hx hb dX7_firstOf_9 (by decide) ?_
  refine lv_istore_n (lv' := [(3, .int 0), (2, .int (-2)), (0, .ref oM), (1, .int p0)]) hx hb dX7_firstOf_10 rfl hl (by decide) rfl (fun ls hl => ?_)
  have hl := lv_sub hl (l' := [(3, .int 0), (2, .int (-2)), (0, .ref oM), (1, .int p0)]) [0, 1, 2, 3] rfl
  have key_n_2064 : ∀ (n_2064 : Nat) (z_2056 : Int32) (z_2057 : Int32) (z_2058 : Int32) (z_2059 : Int32) (z_2060 : Int32) (f_2061 : Nat → Int32) (f_2062 : Nat → Int32) (f_2063 : Nat → Int32) (H : Heap) (locs : List Loc) (ls : Array Slot), (0 ≤ z_2058.toInt ∧ z_2058.toInt ≤ 399) → (0 ≤ z_2059.toInt ∧ z_2059.toInt ≤ 399) → (0 ≤ z_2056.toInt ∧ z_2056.toInt ≤ 4) → (4 - z_2056.toInt).toNat < n_2064 → (PX7_firstOf fM_r fM_told fM_st iM_scale fM_heardRow fM_cutRow iM_breaths iM_cutMany fM_trial p0 = HX7_firstOf_0 fM_r fM_told fM_st iM_scale p0 n_2064 z_2056 z_2057 z_2058 z_2059 z_2060 f_2061 f_2062 f_2063) → va_P (dC, dI) vwCl [(oc7 oM iM_thrown rM_tape iM_taped iM_size iM_at iM_end iM_token iM_whole iM_nameSize iM_fault iM_place iM_trouble rM_letters iM_failed iM_hasCourt rM_r rM_fresh rM_told rM_read rM_st rM_undone rM_kept iM_undos iM_images rM_fresher iM_fresherSize iM_scale iM_night rM_heardRow rM_cutRow z_2058 z_2059 iM_allBreaths rM_trial rM_words z_2060 iM_orderMany iM_orderSum iM_leastOrder rM_often iM_setMany iM_someOf iM_allOf iM_allWeight iM_enoughWeight iM_worthSum iM_firstRest iM_leastDrawn), (arI rM_r kM_r 287 fM_r), (arI rM_told kM_told 90 fM_told), (arI rM_st kM_st 90 fM_st), (arI rM_heardRow kM_heardRow 400 f_2061), (arI rM_cutRow kM_cutRow 800 f_2062), (arI rM_trial kM_trial 90 f_2063)] H → va_D A [(oc7 oM iM_thrown rM_tape iM_taped iM_size iM_at iM_end iM_token iM_whole iM_nameSize iM_fault iM_place iM_trouble rM_letters iM_failed iM_hasCourt rM_r rM_fresh rM_told rM_read rM_st rM_undone rM_kept iM_undos iM_images rM_fresher iM_fresherSize iM_scale iM_night rM_heardRow rM_cutRow z_2058 z_2059 iM_allBreaths rM_trial rM_words z_2060 iM_orderMany iM_orderSum iM_leastOrder rM_often iM_setMany iM_someOf iM_allOf iM_allWeight iM_enoughWeight iM_worthSum iM_firstRest iM_leastDrawn), (arI rM_r kM_r 287 fM_r), (arI rM_told kM_told 90 fM_told), (arI rM_st kM_st 90 fM_st), (arI rM_heardRow kM_heardRow 400 f_2061), (arI rM_cutRow kM_cutRow 800 f_2062), (arI rM_trial kM_trial 90 f_2063)] → va_S A s.heap H locs → lv_has ls 5 [(3, .int z_2056), (2, .int z_2057), (0, .ref oM), (1, .int p0)] → W p l e (headSpec (Cond.code yX7_firstOf cX7_firstOf 5 (some .int) :: wG) ({ frames := 22, cells := 0, slots := 0, locals := 624 })).room s m ([.ref oM, .int p0] : List Value).toArray below meth c H locs 0 0 (MQ below (va_Qi (fun (r : Int32) (u : Nat) => (True ∧ True) ∧ r = Int32.ofNat u) (fun (u : Nat) (t : State) => ∃ (niM_breaths : Int32) (niM_cutMany : Int32) (niM_fewestBreaths : Int32) (nfM_heardRow : Nat → Int32) (nfM_cutRow : Nat → Int32) (nfM_trial : Nat → Int32), (0 ≤ niM_breaths.toInt ∧ niM_breaths.toInt ≤ 399) ∧ (0 ≤ niM_cutMany.toInt ∧ niM_cutMany.toInt ≤ 399) ∧ (PX7_firstOf fM_r fM_told fM_st iM_scale fM_heardRow fM_cutRow iM_breaths iM_cutMany fM_trial p0 = (Int32.ofNat u, niM_breaths, niM_cutMany, niM_fewestBreaths, nfM_heardRow, nfM_cutRow, nfM_trial)) ∧ Bw dC dI A [(oc7 oM iM_thrown rM_tape iM_taped iM_size iM_at iM_end iM_token iM_whole iM_nameSize iM_fault iM_place iM_trouble rM_letters iM_failed iM_hasCourt rM_r rM_fresh rM_told rM_read rM_st rM_undone rM_kept iM_undos iM_images rM_fresher iM_fresherSize iM_scale iM_night rM_heardRow rM_cutRow niM_breaths niM_cutMany iM_allBreaths rM_trial rM_words niM_fewestBreaths iM_orderMany iM_orderSum iM_leastOrder rM_often iM_setMany iM_someOf iM_allOf iM_allWeight iM_enoughWeight iM_worthSum iM_firstRest iM_leastDrawn), (arI rM_r kM_r 287 fM_r), (arI rM_told kM_told 90 fM_told), (arI rM_st kM_st 90 fM_st), (arI rM_heardRow kM_heardRow 400 nfM_heardRow), (arI rM_cutRow kM_cutRow 800 nfM_cutRow), (arI rM_trial kM_trial 90 nfM_trial)] [(kM_r, .int), (kM_told, .int), (kM_st, .int), (kM_heardRow, .int), (kM_cutRow, .int), (kM_trial, .int)] t) A) ([.ref oM, .int p0] : List Value).toArray s 0 0 A) (F0 m 11 ls []) := by
    intro n_2064
    induction n_2064 with
    | zero => intro z_2056 z_2057 z_2058 z_2059 z_2060 f_2061 f_2062 f_2063 H locs ls b_z_2058 b_z_2059 hi0_n_2064 hm; exact absurd hm (Nat.not_lt_zero _)
    | succ n_2064 ih_n_2064 =>
      intro z_2056 z_2057 z_2058 z_2059 z_2060 f_2061 f_2062 f_2063 H locs ls b_z_2058 b_z_2059 hi0_n_2064 hm_n_2064 hG hP hD hS hl
      have hG := hG.trans (HX7_firstOf_0_eq _ _ _ _ _ _ _ _ _ _ _ _ _ _)
      refine lv_iload_n hx hb dX7_firstOf_11 rfl (lv_at hl 0 rfl) ?_
      refine lv_aload_n hx hb dX7_firstOf_12 rfl (lv_at hl 2 rfl) ?_
      refine va_get (D := (dC, dI)) (ci := 7) (v := .ref rM_r) (C := RX7) (T := TX7) (N := 48) hx hb hts inX7 hown hK hP 0 rfl rfl 15 (by decide) (hts _ wd_155) (fun _ h9 => h9) rfl dX7_firstOf_13 ?_
      refine lv_bipush (v := 27) hx hb dX7_firstOf_16 (by decide) ?_
      refine lv_iload_n hx hb dX7_firstOf_18 rfl (lv_at hl 3 rfl) ?_
      refine lv_iadd hx hb dX7_firstOf_19 ?_
      refine lv_topi (fun x_2065 ex_2065 => ?_)
      have hG := hG.trans (lt_eq ex_2065)
      have vx_2065 : x_2065.toInt = p0.toInt + 27 := om_6c48219a (ti_add ex_2065 kc_27 rfl (om_edd3f7cf hk0.1) (om_cf6669ce hk0.2 s_nodes.2))
      refine va_iald hx hb hK hP 1 0 rfl rfl (ti_in vx_2065 (om_b4b48b7f hk0.1) (om_420abfc6 hk0.2 s_nodes.2)) dX7_firstOf_20 ?_
      refine lv_topi (fun x_2066 ex_2066 => ?_)
      have hG := hG.trans (lt_eq ex_2066)
      have kx_2066 : (fM_r x_2065.toNatClampNeg).toInt = x_2066.toInt := by rw [ex_2066]
      have cx_2066 : (fM_r (27 + p0.toNatClampNeg)).toInt = x_2066.toInt := by rw [show 27 + p0.toNatClampNeg = x_2065.toNatClampNeg from (om_779a3124 (ti_cl (x := p0) rfl hk0.1) (ti_cl (x := x_2065) vx_2065 (om_b4b48b7f hk0.1)))]; exact kx_2066
      have sx_2066 := r_R.many x_2065.toNatClampNeg (om_ab5399c3 (ti_cl (x := x_2065) vx_2065 (om_b4b48b7f hk0.1)) hk0.1) (om_3b68d876 (ti_cl (x := x_2065) vx_2065 (om_b4b48b7f hk0.1)) hk0.2 s_nodes.2)
      refine lv_icmp_ge (tgt := 98) hx hb dX7_firstOf_21 (by decide) (fun c_2067 => ?_) (fun c_2067 => ?_)
      · skip
        have hG := hG.trans (if_pos c_2067)
        have gc_2067 := ti_le c_2067 rfl rfl
        refine lv_iload_n hx hb dX7_firstOf_98 rfl (lv_at hl 1 rfl) ?_
        exact wq_i hx hb hr (cI z_2057) ⟨⟨trivial, trivial⟩, (cI_of z_2057)⟩ (fun t ht hW => ⟨z_2058, z_2059, z_2060, f_2061, f_2062, f_2063, b_z_2058, b_z_2059, (cI_tup hG), Bw.to hP hD hK ht hW⟩) hS dX7_firstOf_99 hlocks
      · skip
        have hG := hG.trans (if_neg c_2067)
        have gc_2067 := ti_nle c_2067 rfl rfl
        refine lv_aload_n hx hb dX7_firstOf_24 rfl (lv_at hl 2 rfl) ?_
        refine va_get (D := (dC, dI)) (ci := 7) (v := .ref rM_st) (C := RX7) (T := TX7) (N := 48) hx hb hts inX7 hown hK hP 0 rfl rfl 19 (by decide) (hts _ wd_159) (fun _ h9 => h9) rfl dX7_firstOf_25 ?_
        refine lv_iconst (v := 0) hx hb dX7_firstOf_28 (by decide) ?_
        refine lv_aload_n hx hb dX7_firstOf_29 rfl (lv_at hl 2 rfl) ?_
        refine va_get (D := (dC, dI)) (ci := 7) (v := .ref rM_trial) (C := RX7) (T := TX7) (N := 48) hx hb hts inX7 hown hK hP 0 rfl rfl 33 (by decide) (hts _ wd_167) (fun _ h9 => h9) rfl dX7_firstOf_30 ?_
        refine lv_iconst (v := 0) hx hb dX7_firstOf_33 (by decide) ?_
        refine lv_bipush (v := 90) hx hb dX7_firstOf_34 (by decide) ?_
        have hMs := ml_of hD [false, false, false, true, false, false, true] (wc := [(arI rM_st kM_st 90 fM_st), (arI rM_trial kM_trial 90 f_2063)]) rfl
        have hFc := va_freeM hD hS hA _ hMs
        refine va_callv (va_runS (As := [.ref rM_st, .int 0, .ref rM_trial, .int 0, .int 90]) (rest := []) ⟨hx, hb, hml, hown, hts⟩ (tX7_copy_90_90 l dC dI _ rM_st fM_st kM_st rM_trial f_2063 kM_trial 0 0 90 ⟨(om_b1de7dbe kc_0), (om_b1de7dbe kc_0), (om_34f60646 kc_90)⟩ (om_3b9d1022 kc_0 kc_90) (om_3b9d1022 kc_0 kc_90)) (va_cwS 5 hts (wd_S wd_475 wd_476 wd_5 (wd_c wd_477)) rfl rfl rfl ds_yX7_copy_5 ⟨Nat.le_of_ble_eq_true rfl, Nat.le_of_ble_eq_true rfl⟩) ⟨Pw.fb, fun U hU hW => Pw.to (hP.ms _ hMs) (hD.ms _ hMs) (hK.ms [false, false, true, false, false, true] rfl) hE hS hFc hU hW⟩ rfl rfl hl.1 rfl (lv_room (Nat.le_of_ble_eq_true rfl)) dX7_firstOf_36 ⟨Nat.le_of_ble_eq_true rfl, Nat.le_of_ble_eq_true rfl⟩) hS (fun q _ h => hFc q h) hFc (fun u t H locs ht hvm hw hB hz1 hk1 hS => ?_)
        refine ex_1_1 hB (fun f_2068 e_f_2068_0 hB => ?_)
        obtain ⟨hP, hD⟩ := Bw.goN (ws' := [(oc7 oM iM_thrown rM_tape iM_taped iM_size iM_at iM_end iM_token iM_whole iM_nameSize iM_fault iM_place iM_trouble rM_letters iM_failed iM_hasCourt rM_r rM_fresh rM_told rM_read rM_st rM_undone rM_kept iM_undos iM_images rM_fresher iM_fresherSize iM_scale iM_night rM_heardRow rM_cutRow z_2058 z_2059 iM_allBreaths rM_trial rM_words z_2060 iM_orderMany iM_orderSum iM_leastOrder rM_often iM_setMany iM_someOf iM_allOf iM_allWeight iM_enoughWeight iM_worthSum iM_firstRest iM_leastDrawn), (arI rM_r kM_r 287 fM_r), (arI rM_told kM_told 90 fM_told), (arI rM_st kM_st 90 fM_st), (arI rM_heardRow kM_heardRow 400 f_2061), (arI rM_cutRow kM_cutRow 800 f_2062), (arI rM_trial kM_trial 90 f_2068)]) hB rfl ht hP hD _ hMs hk1 hFc rfl
        clear hz1 hk1 hvm ht hB hMs
        have r_f_2068 : RowOk fM_r f_2068 := RowOk.copy r_R r_st e_f_2068_0
        have hG := hG.trans (lt_eq (CopyOk.fn e_f_2068_0).symm)
        refine lv_aload_n hx hb dX7_firstOf_39 rfl (lv_at hl 2 rfl) ?_
        refine lv_aload_n hx hb dX7_firstOf_40 rfl (lv_at hl 2 rfl) ?_
        refine va_get (D := (dC, dI)) (ci := 7) (v := .ref rM_trial) (C := RX7) (T := TX7) (N := 48) hx hb hts inX7 hown hK hP 0 rfl rfl 33 (by decide) (hts _ wd_167) (fun _ h9 => h9) rfl dX7_firstOf_41 ?_
        refine lv_iload_n hx hb dX7_firstOf_44 rfl (lv_at hl 3 rfl) ?_
        refine lv_iload_n hx hb dX7_firstOf_45 rfl (lv_at hl 0 rfl) ?_
        have hMs := ml_of hD [true, true, false, false, false, false, true] (wc := [(oc7 oM iM_thrown rM_tape iM_taped iM_size iM_at iM_end iM_token iM_whole iM_nameSize iM_fault iM_place iM_trouble rM_letters iM_failed iM_hasCourt rM_r rM_fresh rM_told rM_read rM_st rM_undone rM_kept iM_undos iM_images rM_fresher iM_fresherSize iM_scale iM_night rM_heardRow rM_cutRow z_2058 z_2059 iM_allBreaths rM_trial rM_words z_2060 iM_orderMany iM_orderSum iM_leastOrder rM_often iM_setMany iM_someOf iM_allOf iM_allWeight iM_enoughWeight iM_worthSum iM_firstRest iM_leastDrawn), (arI rM_r kM_r 287 fM_r), (arI rM_trial kM_trial 90 f_2068)]) rfl
        have hFc := va_freeM hD hS hA _ hMs
        refine va_callv (va_runV (As := [.ref rM_trial, .int p0, .int z_2056]) (rest := []) ⟨hx, hb, hml, hown, hts⟩ (tX7_frontOf l dC dI _ oM iM_thrown rM_tape iM_taped iM_size iM_at iM_end iM_token iM_whole iM_nameSize iM_fault iM_place iM_trouble rM_letters iM_failed iM_hasCourt rM_r fM_r kM_r rM_fresh rM_told rM_read rM_st rM_undone rM_kept iM_undos iM_images rM_fresher iM_fresherSize iM_scale iM_night rM_heardRow rM_cutRow z_2058 z_2059 iM_allBreaths rM_trial rM_words z_2060 iM_orderMany iM_orderSum iM_leastOrder rM_often iM_setMany iM_someOf iM_allOf iM_allWeight iM_enoughWeight iM_worthSum iM_firstRest iM_leastDrawn rM_trial f_2068 kM_trial p0 z_2056 b_iM_taped b_iM_size b_iM_end b_iM_failed b_iM_hasCourt b_iM_undos b_iM_images b_iM_scale b_z_2058 b_z_2059 (by assumption) (by assumption) (by assumption) ⟨hk0.1, hk0.2⟩ ⟨hi0_n_2064.1, (om_644b432c cx_2066 gc_2067)⟩) (cwV 3 hts (wd_V wd_1032 wd_1033 wd_1034 wd_5 (wd_c wd_1035)) rfl rfl rfl dv_yX7_frontOf_3 ⟨Nat.le_of_ble_eq_true rfl, Nat.le_of_ble_eq_true rfl⟩) ⟨Pw.fb, recvX7 hK hP (q0 := 0) rfl, fun U hU hW => Pw.to (hP.ms _ hMs) (hD.ms _ hMs) (hK.ms [true, false, false, false, false, true] rfl) hE hS hFc hU hW⟩ rfl rfl hl.1 rfl (lv_room (Nat.le_of_ble_eq_true rfl)) dX7_firstOf_46 ⟨Nat.le_of_ble_eq_true rfl, Nat.le_of_ble_eq_true rfl⟩) hS (fun q _ h => hFc q h) hFc (fun u t H locs ht hvm hw hB hz1 hk1 hS => ?_)
        refine ex_1_3 hB (fun f_2069 e_f_2069_0 e_f_2069_1 e_f_2069_2 hB => ?_)
        obtain ⟨hP, hD⟩ := Bw.goN (ws' := [(oc7 oM iM_thrown rM_tape iM_taped iM_size iM_at iM_end iM_token iM_whole iM_nameSize iM_fault iM_place iM_trouble rM_letters iM_failed iM_hasCourt rM_r rM_fresh rM_told rM_read rM_st rM_undone rM_kept iM_undos iM_images rM_fresher iM_fresherSize iM_scale iM_night rM_heardRow rM_cutRow z_2058 z_2059 iM_allBreaths rM_trial rM_words z_2060 iM_orderMany iM_orderSum iM_leastOrder rM_often iM_setMany iM_someOf iM_allOf iM_allWeight iM_enoughWeight iM_worthSum iM_firstRest iM_leastDrawn), (arI rM_r kM_r 287 fM_r), (arI rM_told kM_told 90 fM_told), (arI rM_st kM_st 90 fM_st), (arI rM_heardRow kM_heardRow 400 f_2061), (arI rM_cutRow kM_cutRow 800 f_2062), (arI rM_trial kM_trial 90 f_2069)]) hB rfl ht hP hD _ hMs hk1 hFc rfl
        clear hz1 hk1 hvm ht hB hMs
        have hG := hG.trans (lt_eq e_f_2069_2.symm)
        refine lv_aload_n hx hb dX7_firstOf_49 rfl (lv_at hl 2 rfl) ?_
        refine lv_aload_n hx hb dX7_firstOf_50 rfl (lv_at hl 2 rfl) ?_
        refine va_get (D := (dC, dI)) (ci := 7) (v := .ref rM_trial) (C := RX7) (T := TX7) (N := 48) hx hb hts inX7 hown hK hP 0 rfl rfl 33 (by decide) (hts _ wd_167) (fun _ h9 => h9) rfl dX7_firstOf_51 ?_
        have hMs := ml_of hD [true, true, true, false, true, true, true] (wc := [(oc7 oM iM_thrown rM_tape iM_taped iM_size iM_at iM_end iM_token iM_whole iM_nameSize iM_fault iM_place iM_trouble rM_letters iM_failed iM_hasCourt rM_r rM_fresh rM_told rM_read rM_st rM_undone rM_kept iM_undos iM_images rM_fresher iM_fresherSize iM_scale iM_night rM_heardRow rM_cutRow z_2058 z_2059 iM_allBreaths rM_trial rM_words z_2060 iM_orderMany iM_orderSum iM_leastOrder rM_often iM_setMany iM_someOf iM_allOf iM_allWeight iM_enoughWeight iM_worthSum iM_firstRest iM_leastDrawn), (arI rM_r kM_r 287 fM_r), (arI rM_told kM_told 90 fM_told), (arI rM_heardRow kM_heardRow 400 f_2061), (arI rM_cutRow kM_cutRow 800 f_2062), (arI rM_trial kM_trial 90 f_2069)]) rfl
        have hFc := va_freeM hD hS hA _ hMs
        refine va_calli (va_runV (As := [.ref rM_trial]) (rest := []) ⟨hx, hb, hml, hown, hts⟩ (tX7_breathsBy l dC dI _ oM iM_thrown rM_tape iM_taped iM_size iM_at iM_end iM_token iM_whole iM_nameSize iM_fault iM_place iM_trouble rM_letters iM_failed iM_hasCourt rM_r fM_r kM_r rM_fresh rM_told fM_told kM_told rM_read rM_st rM_undone rM_kept iM_undos iM_images rM_fresher iM_fresherSize iM_scale iM_night rM_heardRow f_2061 kM_heardRow rM_cutRow f_2062 kM_cutRow z_2058 z_2059 iM_allBreaths rM_trial rM_words z_2060 iM_orderMany iM_orderSum iM_leastOrder rM_often iM_setMany iM_someOf iM_allOf iM_allWeight iM_enoughWeight iM_worthSum iM_firstRest iM_leastDrawn rM_trial f_2069 kM_trial b_iM_taped b_iM_size b_iM_end b_iM_failed b_iM_hasCourt b_iM_undos b_iM_images b_iM_scale b_z_2058 b_z_2059 (by assumption) (by assumption) (by assumption) (by assumption) ⟨hth.1, hth.2⟩) (cwV 1 hts (wd_V wd_769 wd_770 wd_771 wd_5 (wd_c wd_772)) rfl rfl rfl dv_yX7_breathsBy_1 ⟨Nat.le_of_ble_eq_true rfl, Nat.le_of_ble_eq_true rfl⟩) ⟨Pw.fb, recvX7 hK hP (q0 := 0) rfl, fun U hU hW => Pw.to (hP.ms _ hMs) (hD.ms _ hMs) (hK.ms [true, true, false, true, true, true] rfl) hE hS hFc hU hW⟩ rfl rfl hl.1 rfl (lv_room (Nat.le_of_ble_eq_true rfl)) dX7_firstOf_54 ⟨Nat.le_of_ble_eq_true rfl, Nat.le_of_ble_eq_true rfl⟩) hS (fun q _ h => hFc q h) hFc (fun r u t H locs ht hvm hw hB hz1 hk1 hS => ?_)
        have hru9 := hw.2
        have hw := hw.1
        refine ex_4_3 hB (fun x_2070 x_2071 f_2072 f_2073 b_x_2070 b_x_2071 e_x_2070_0 hB => ?_)
        obtain ⟨hP, hD⟩ := Bw.goN (ws' := [(oc7 oM iM_thrown rM_tape iM_taped iM_size iM_at iM_end iM_token iM_whole iM_nameSize iM_fault iM_place iM_trouble rM_letters iM_failed iM_hasCourt rM_r rM_fresh rM_told rM_read rM_st rM_undone rM_kept iM_undos iM_images rM_fresher iM_fresherSize iM_scale iM_night rM_heardRow rM_cutRow x_2070 x_2071 iM_allBreaths rM_trial rM_words z_2060 iM_orderMany iM_orderSum iM_leastOrder rM_often iM_setMany iM_someOf iM_allOf iM_allWeight iM_enoughWeight iM_worthSum iM_firstRest iM_leastDrawn), (arI rM_r kM_r 287 fM_r), (arI rM_told kM_told 90 fM_told), (arI rM_st kM_st 90 fM_st), (arI rM_heardRow kM_heardRow 400 f_2072), (arI rM_cutRow kM_cutRow 800 f_2073), (arI rM_trial kM_trial 90 f_2069)]) hB rfl ht hP hD _ hMs hk1 hFc rfl
        clear hz1 hk1 hvm ht hB hMs
        rw [← hru9] at e_x_2070_0
        obtain ⟨x_2074, rfl⟩ : ∃ z, z = r := ⟨_, rfl⟩
        have hG := hG.trans (un5_eq e_x_2070_0)
        have ux_2074 := hw.2
        refine lv_istore (lv' := [(4, .int x_2074), (3, .int z_2056), (2, .int z_2057), (0, .ref oM), (1, .int p0)]) hx hb dX7_firstOf_57 hl (by decide) rfl (fun ls hl => ?_)
        refine lv_iload_n hx hb dX7_firstOf_59 rfl (lv_at hl 2 rfl) ?_
        refine lv_if_lt (tgt := 75) hx hb dX7_firstOf_60 (by decide) (fun c_2075 => ?_) (fun c_2075 => ?_)
        · skip
          have hG := hG.trans (if_pos c_2075)
          have gc_2075 := ti_lt c_2075 rfl kc_0
          refine lv_aload_n hx hb dX7_firstOf_75 rfl (lv_at hl 3 rfl) ?_
          refine va_get (D := (dC, dI)) (ci := 7) (v := .ref rM_st) (C := RX7) (T := TX7) (N := 48) hx hb hts inX7 hown hK hP 0 rfl rfl 19 (by decide) (hts _ wd_159) (fun _ h9 => h9) rfl dX7_firstOf_76 ?_
          refine lv_iconst (v := 4) hx hb dX7_firstOf_79 (by decide) ?_
          refine lv_iload_n hx hb dX7_firstOf_80 rfl (lv_at hl 4 rfl) ?_
          refine lv_imul hx hb dX7_firstOf_81 ?_
          refine lv_topi (fun x_2076 ex_2076 => ?_)
          have hG := hG.trans (lt_eq ex_2076)
          have vx_2076 : x_2076.toInt = 4 * p0.toInt := ti_mul ex_2076 kc_4 rfl (om_56b74365 hk0.1) (om_eac0354e hk0.2 s_nodes.2)
          refine lv_iload_n hx hb dX7_firstOf_82 rfl (lv_at hl 1 rfl) ?_
          refine lv_iadd hx hb dX7_firstOf_83 ?_
          refine lv_topi (fun x_2077 ex_2077 => ?_)
          have hG := hG.trans (lt_eq ex_2077)
          have vx_2077 : x_2077.toInt = 4 * p0.toInt + z_2056.toInt := om_5d0caf0f (ti_add ex_2077 vx_2076 rfl (om_056a216f hk0.1 hi0_n_2064.1) (om_cddd17b5 hk0.2 s_nodes.2 hi0_n_2064.2))
          refine va_iald hx hb hK hP 3 2 rfl rfl (ti_in vx_2077 (om_fc2812d4 hk0.1 hi0_n_2064.1) (om_50b52c69 hk0.2 s_nodes.2 hi0_n_2064.2)) dX7_firstOf_84 ?_
          refine lv_topi (fun x_2078 ex_2078 => ?_)
          have hG := hG.trans (lt_eq ex_2078)
          have kx_2078 : (fM_st x_2077.toNatClampNeg).toInt = x_2078.toInt := by rw [ex_2078]
          have cx_2078 : (fM_st (4 * p0.toNatClampNeg + z_2056.toNatClampNeg)).toInt = x_2078.toInt := by rw [show 4 * p0.toNatClampNeg + z_2056.toNatClampNeg = x_2077.toNatClampNeg from (om_4de36627 (ti_cl (x := p0) rfl hk0.1) (ti_cl (x := z_2056) rfl hi0_n_2064.1) (ti_cl (x := x_2077) vx_2077 (om_fc2812d4 hk0.1 hi0_n_2064.1)))]; exact kx_2078
          have wx_2078 : 0 ≤ x_2078.toInt ∧ x_2078.toInt < p0.toInt := row_lt r_st (i := z_2056.toNatClampNeg) (ti_cl (x := p0) rfl hk0.1) (ti_cl (x := z_2056) rfl hi0_n_2064.1) hk0.2 (om_644b432c cx_2066 gc_2067) (om_24300f0a (ti_cl (x := p0) rfl hk0.1) (ti_cl (x := z_2056) rfl hi0_n_2064.1)) cx_2078
          refine lv_istore_n (lv' := [(2, .int x_2078), (4, .int x_2074), (3, .int z_2056), (0, .ref oM), (1, .int p0)]) hx hb dX7_firstOf_85 rfl hl (by decide) rfl (fun ls hl => ?_)
          refine lv_aload_n hx hb dX7_firstOf_86 rfl (lv_at hl 3 rfl) ?_
          refine lv_iload hx hb dX7_firstOf_87 (lv_at hl 1 rfl) ?_
          refine va_put (D := (dC, dI)) (ci := 7) (v := .int x_2074) (ty := .int) (C := RX7) (T := TX7) (N := 48) hx hb hts inX7 tyX7 tyX7_ok nmX7 hown hK hP hD hS 0 rfl rfl 35 (by decide) (hts _ wd_1031) (fun _ h9 => h9) rfl (by decide +kernel) rfl rfl (Nat.le_of_ble_eq_true rfl) dX7_firstOf_89 (fun H locs hP hD hS => ?_)
          obtain ⟨hP, hD⟩ := wl2 (ws' := [(oc7 oM iM_thrown rM_tape iM_taped iM_size iM_at iM_end iM_token iM_whole iM_nameSize iM_fault iM_place iM_trouble rM_letters iM_failed iM_hasCourt rM_r rM_fresh rM_told rM_read rM_st rM_undone rM_kept iM_undos iM_images rM_fresher iM_fresherSize iM_scale iM_night rM_heardRow rM_cutRow x_2070 x_2071 iM_allBreaths rM_trial rM_words x_2074 iM_orderMany iM_orderSum iM_leastOrder rM_often iM_setMany iM_someOf iM_allOf iM_allWeight iM_enoughWeight iM_worthSum iM_firstRest iM_leastDrawn), (arI rM_r kM_r 287 fM_r), (arI rM_told kM_told 90 fM_told), (arI rM_st kM_st 90 fM_st), (arI rM_heardRow kM_heardRow 400 f_2072), (arI rM_cutRow kM_cutRow 800 f_2073), (arI rM_trial kM_trial 90 f_2069)]) hP hD rfl
          obtain ⟨x_2079, ex_2079⟩ : ∃ z : Int32, z = z_2056 + Int32.ofInt 1 := ⟨_, rfl⟩
          have hG := hG.trans (lt_eq ex_2079)
          have vx_2079 : x_2079.toInt = z_2056.toInt + 1 := ti_add (y := 1) ex_2079 rfl kc_1 (om_4e4fce7e hi0_n_2064.1) (om_bae2951a hi0_n_2064.2)
          refine lv_iinc (v := x_2079) (lv' := [(3, .int x_2079), (2, .int x_2078), (4, .int x_2074), (0, .ref oM), (1, .int p0)]) hx hb dX7_firstOf_92 hl (k := 2) rfl ex_2079.symm (by decide) rfl (fun ls hl => ?_)
          refine lv_goto (tgt := 11) hx hb dX7_firstOf_95 (by decide) ?_
          exact ih_n_2064 x_2079 x_2078 x_2070 x_2071 x_2074 f_2072 f_2073 f_2069 _ _ _ b_x_2070 b_x_2071 ⟨(om_83b90de5 hi0_n_2064.1 vx_2079), (om_8267bec5 mn_p0.2 cx_2066 gc_2067 vx_2079)⟩ (ms_lt hm_n_2064 (om_ed22490e vx_2079) (om_e4be4046 mn_p0.2 cx_2066 gc_2067)) hG hP hD hS (lv_sub hl [0, 1, 3, 4] rfl)
        · skip
          have hG := hG.trans (if_neg c_2075)
          have gc_2075 := ti_nlt c_2075 rfl kc_0
          refine lv_iload hx hb dX7_firstOf_63 (lv_at hl 0 rfl) ?_
          refine lv_aload_n hx hb dX7_firstOf_65 rfl (lv_at hl 3 rfl) ?_
          refine va_get (D := (dC, dI)) (ci := 7) (v := .int z_2060) (C := RX7) (T := TX7) (N := 48) hx hb hts inX7 hown hK hP 0 rfl rfl 35 (by decide) (hts _ wd_1031) (fun _ h9 => h9) rfl dX7_firstOf_66 ?_
          refine lv_icmp_lt (tgt := 75) hx hb dX7_firstOf_69 (by decide) (fun c_2080 => ?_) (fun c_2080 => ?_)
          · skip
            have hG := hG.trans (if_pos c_2080)
            have gc_2080 := ti_lt c_2080 rfl rfl
            refine lv_aload_n hx hb dX7_firstOf_75 rfl (lv_at hl 3 rfl) ?_
            refine va_get (D := (dC, dI)) (ci := 7) (v := .ref rM_st) (C := RX7) (T := TX7) (N := 48) hx hb hts inX7 hown hK hP 0 rfl rfl 19 (by decide) (hts _ wd_159) (fun _ h9 => h9) rfl dX7_firstOf_76 ?_
            refine lv_iconst (v := 4) hx hb dX7_firstOf_79 (by decide) ?_
            refine lv_iload_n hx hb dX7_firstOf_80 rfl (lv_at hl 4 rfl) ?_
            refine lv_imul hx hb dX7_firstOf_81 ?_
            refine lv_topi (fun x_2081 ex_2081 => ?_)
            have hG := hG.trans (lt_eq ex_2081)
            have vx_2081 : x_2081.toInt = 4 * p0.toInt := ti_mul ex_2081 kc_4 rfl (om_56b74365 hk0.1) (om_eac0354e hk0.2 s_nodes.2)
            refine lv_iload_n hx hb dX7_firstOf_82 rfl (lv_at hl 1 rfl) ?_
            refine lv_iadd hx hb dX7_firstOf_83 ?_
            refine lv_topi (fun x_2082 ex_2082 => ?_)
            have hG := hG.trans (lt_eq ex_2082)
            have vx_2082 : x_2082.toInt = 4 * p0.toInt + z_2056.toInt := om_5d0caf0f (ti_add ex_2082 vx_2081 rfl (om_056a216f hk0.1 hi0_n_2064.1) (om_cddd17b5 hk0.2 s_nodes.2 hi0_n_2064.2))
            refine va_iald hx hb hK hP 3 2 rfl rfl (ti_in vx_2082 (om_fc2812d4 hk0.1 hi0_n_2064.1) (om_50b52c69 hk0.2 s_nodes.2 hi0_n_2064.2)) dX7_firstOf_84 ?_
            refine lv_topi (fun x_2083 ex_2083 => ?_)
            have hG := hG.trans (lt_eq ex_2083)
            have kx_2083 : (fM_st x_2082.toNatClampNeg).toInt = x_2083.toInt := by rw [ex_2083]
            have cx_2083 : (fM_st (4 * p0.toNatClampNeg + z_2056.toNatClampNeg)).toInt = x_2083.toInt := by rw [show 4 * p0.toNatClampNeg + z_2056.toNatClampNeg = x_2082.toNatClampNeg from (om_4de36627 (ti_cl (x := p0) rfl hk0.1) (ti_cl (x := z_2056) rfl hi0_n_2064.1) (ti_cl (x := x_2082) vx_2082 (om_fc2812d4 hk0.1 hi0_n_2064.1)))]; exact kx_2083
            have wx_2083 : 0 ≤ x_2083.toInt ∧ x_2083.toInt < p0.toInt := row_lt r_st (i := z_2056.toNatClampNeg) (ti_cl (x := p0) rfl hk0.1) (ti_cl (x := z_2056) rfl hi0_n_2064.1) hk0.2 (om_644b432c cx_2066 gc_2067) (om_24300f0a (ti_cl (x := p0) rfl hk0.1) (ti_cl (x := z_2056) rfl hi0_n_2064.1)) cx_2083
            refine lv_istore_n (lv' := [(2, .int x_2083), (4, .int x_2074), (3, .int z_2056), (0, .ref oM), (1, .int p0)]) hx hb dX7_firstOf_85 rfl hl (by decide) rfl (fun ls hl => ?_)
            refine lv_aload_n hx hb dX7_firstOf_86 rfl (lv_at hl 3 rfl) ?_
            refine lv_iload hx hb dX7_firstOf_87 (lv_at hl 1 rfl) ?_
            refine va_put (D := (dC, dI)) (ci := 7) (v := .int x_2074) (ty := .int) (C := RX7) (T := TX7) (N := 48) hx hb hts inX7 tyX7 tyX7_ok nmX7 hown hK hP hD hS 0 rfl rfl 35 (by decide) (hts _ wd_1031) (fun _ h9 => h9) rfl (by decide +kernel) rfl rfl (Nat.le_of_ble_eq_true rfl) dX7_firstOf_89 (fun H locs hP hD hS => ?_)
            obtain ⟨hP, hD⟩ := wl2 (ws' := [(oc7 oM iM_thrown rM_tape iM_taped iM_size iM_at iM_end iM_token iM_whole iM_nameSize iM_fault iM_place iM_trouble rM_letters iM_failed iM_hasCourt rM_r rM_fresh rM_told rM_read rM_st rM_undone rM_kept iM_undos iM_images rM_fresher iM_fresherSize iM_scale iM_night rM_heardRow rM_cutRow x_2070 x_2071 iM_allBreaths rM_trial rM_words x_2074 iM_orderMany iM_orderSum iM_leastOrder rM_often iM_setMany iM_someOf iM_allOf iM_allWeight iM_enoughWeight iM_worthSum iM_firstRest iM_leastDrawn), (arI rM_r kM_r 287 fM_r), (arI rM_told kM_told 90 fM_told), (arI rM_st kM_st 90 fM_st), (arI rM_heardRow kM_heardRow 400 f_2072), (arI rM_cutRow kM_cutRow 800 f_2073), (arI rM_trial kM_trial 90 f_2069)]) hP hD rfl
            obtain ⟨x_2084, ex_2084⟩ : ∃ z : Int32, z = z_2056 + Int32.ofInt 1 := ⟨_, rfl⟩
            have hG := hG.trans (lt_eq ex_2084)
            have vx_2084 : x_2084.toInt = z_2056.toInt + 1 := ti_add (y := 1) ex_2084 rfl kc_1 (om_4e4fce7e hi0_n_2064.1) (om_bae2951a hi0_n_2064.2)
            refine lv_iinc (v := x_2084) (lv' := [(3, .int x_2084), (2, .int x_2083), (4, .int x_2074), (0, .ref oM), (1, .int p0)]) hx hb dX7_firstOf_92 hl (k := 2) rfl ex_2084.symm (by decide) rfl (fun ls hl => ?_)
            refine lv_goto (tgt := 11) hx hb dX7_firstOf_95 (by decide) ?_
            exact ih_n_2064 x_2084 x_2083 x_2070 x_2071 x_2074 f_2072 f_2073 f_2069 _ _ _ b_x_2070 b_x_2071 ⟨(om_83b90de5 hi0_n_2064.1 vx_2084), (om_8267bec5 mn_p0.2 cx_2066 gc_2067 vx_2084)⟩ (ms_lt hm_n_2064 (om_ed22490e vx_2084) (om_e4be4046 mn_p0.2 cx_2066 gc_2067)) hG hP hD hS (lv_sub hl [0, 1, 3, 4] rfl)
          · skip
            have hG := hG.trans (if_neg c_2080)
            have gc_2080 := ti_nlt c_2080 rfl rfl
            refine lv_goto (tgt := 92) hx hb dX7_firstOf_72 (by decide) ?_
            obtain ⟨x_2085, ex_2085⟩ : ∃ z : Int32, z = z_2056 + Int32.ofInt 1 := ⟨_, rfl⟩
            have hG := hG.trans (lt_eq ex_2085)
            have vx_2085 : x_2085.toInt = z_2056.toInt + 1 := ti_add (y := 1) ex_2085 rfl kc_1 (om_4e4fce7e hi0_n_2064.1) (om_bae2951a hi0_n_2064.2)
            refine lv_iinc (v := x_2085) (lv' := [(3, .int x_2085), (4, .int x_2074), (2, .int z_2057), (0, .ref oM), (1, .int p0)]) hx hb dX7_firstOf_92 hl (k := 1) rfl ex_2085.symm (by decide) rfl (fun ls hl => ?_)
            refine lv_goto (tgt := 11) hx hb dX7_firstOf_95 (by decide) ?_
            exact ih_n_2064 x_2085 z_2057 x_2070 x_2071 z_2060 f_2072 f_2073 f_2069 _ _ _ b_x_2070 b_x_2071 ⟨(om_83b90de5 hi0_n_2064.1 vx_2085), (om_8267bec5 mn_p0.2 cx_2066 gc_2067 vx_2085)⟩ (ms_lt hm_n_2064 (om_ed22490e vx_2085) (om_e4be4046 mn_p0.2 cx_2066 gc_2067)) hG hP hD hS (lv_sub hl [0, 2, 3, 4] rfl)
  exact key_n_2064 (((4 - (0 : Int32).toInt).toNat) + 1) 0 (-2) iM_breaths iM_cutMany (-2) fM_heardRow fM_cutRow fM_trial _ _ _ ⟨b_iM_breaths.1, b_iM_breaths.2⟩ ⟨b_iM_cutMany.1, b_iM_cutMany.2⟩ ⟨(om_b1de7dbe kc_0), (om_bebe011a kc_0)⟩ (Nat.lt_add_one _) hG hP hD hS hl
set_option maxHeartbeats 4000000 in
set_option maxRecDepth 100000 in
theorem tX7_first (l : Launch) (dC : Nat → ClassId) (dI : Nat → Nat → Nat) (sz : Nat) (oM : Nat) (iM_thrown : Int32) (rM_tape : Nat) (iM_taped : Int32) (iM_size : Int32) (iM_at : Int32) (iM_end : Int32) (iM_token : Int32) (iM_whole : Int32) (iM_nameSize : Int32) (iM_fault : Int32) (iM_place : Int32) (iM_trouble : Int32) (rM_letters : Nat) (iM_failed : Int32) (iM_hasCourt : Int32) (rM_r : Nat) (fM_r : Nat → Int32) (kM_r : ClassId) (rM_fresh : Nat) (rM_told : Nat) (fM_told : Nat → Int32) (kM_told : ClassId) (rM_read : Nat) (rM_st : Nat) (fM_st : Nat → Int32) (kM_st : ClassId) (rM_undone : Nat) (rM_kept : Nat) (iM_undos : Int32) (iM_images : Int32) (rM_fresher : Nat) (iM_fresherSize : Int32) (iM_scale : Int32) (iM_night : Int32) (rM_heardRow : Nat) (fM_heardRow : Nat → Int32) (kM_heardRow : ClassId) (rM_cutRow : Nat) (fM_cutRow : Nat → Int32) (kM_cutRow : ClassId) (iM_breaths : Int32) (iM_cutMany : Int32) (iM_allBreaths : Int32) (rM_trial : Nat) (fM_trial : Nat → Int32) (kM_trial : ClassId) (rM_words : Nat) (iM_fewestBreaths : Int32) (iM_orderMany : Int32) (iM_orderSum : Int32) (iM_leastOrder : Int32) (rM_often : Nat) (iM_setMany : Int32) (iM_someOf : Int32) (iM_allOf : Int32) (iM_allWeight : Int64) (iM_enoughWeight : Int64) (iM_worthSum : Int64) (iM_firstRest : Int32) (iM_leastDrawn : Int32) (p0 : Int32) (b_iM_taped : 0 ≤ iM_taped.toInt ∧ iM_taped.toInt ≤ 900) (b_iM_size : 0 ≤ iM_size.toInt ∧ iM_size.toInt ≤ 900) (b_iM_end : 0 ≤ iM_end.toInt ∧ iM_end.toInt ≤ 900) (b_iM_failed : 0 ≤ iM_failed.toInt ∧ iM_failed.toInt ≤ 1) (b_iM_hasCourt : 0 ≤ iM_hasCourt.toInt ∧ iM_hasCourt.toInt ≤ 1) (b_iM_undos : 0 ≤ iM_undos.toInt ∧ iM_undos.toInt ≤ 16) (b_iM_images : 0 ≤ iM_images.toInt ∧ iM_images.toInt ≤ 3) (b_iM_scale : 1 ≤ iM_scale.toInt ∧ iM_scale.toInt ≤ 1296) (b_iM_breaths : 0 ≤ iM_breaths.toInt ∧ iM_breaths.toInt ≤ 399) (b_iM_cutMany : 0 ≤ iM_cutMany.toInt ∧ iM_cutMany.toInt ≤ 399) (r_R : ROk fM_r) (r_C : iM_hasCourt.toInt ≤ 0 ∨ (1 ≤ (fM_r 1).toInt ∧ 0 ≤ (fM_r 6).toInt ∧ (fM_r 6).toInt < (fM_r 1).toInt)) (r_st : RowOk fM_r fM_st) (r_told : RowOk fM_r fM_told) (r_wst : WorOk fM_st)  : Met l yX7_first (Cond.code yX7_first cX7_first 2 (some .int) :: wG) ({ frames := 23, cells := 0, slots := 0, locals := 648 }) (va_Pc [.ref oM, .int p0] (Pw dC dI sz [(oc7 oM iM_thrown rM_tape iM_taped iM_size iM_at iM_end iM_token iM_whole iM_nameSize iM_fault iM_place iM_trouble rM_letters iM_failed iM_hasCourt rM_r rM_fresh rM_told rM_read rM_st rM_undone rM_kept iM_undos iM_images rM_fresher iM_fresherSize iM_scale iM_night rM_heardRow rM_cutRow iM_breaths iM_cutMany iM_allBreaths rM_trial rM_words iM_fewestBreaths iM_orderMany iM_orderSum iM_leastOrder rM_often iM_setMany iM_someOf iM_allOf iM_allWeight iM_enoughWeight iM_worthSum iM_firstRest iM_leastDrawn), (arI rM_r kM_r 287 fM_r), (arI rM_told kM_told 90 fM_told), (arI rM_st kM_st 90 fM_st), (arI rM_heardRow kM_heardRow 400 fM_heardRow), (arI rM_cutRow kM_cutRow 800 fM_cutRow), (arI rM_trial kM_trial 90 fM_trial)] [(kM_r, .int), (kM_told, .int), (kM_st, .int), (kM_heardRow, .int), (kM_cutRow, .int), (kM_trial, .int)])) (va_Qi (fun (r : Int32) (u : Nat) => (True ∧ True) ∧ r = Int32.ofNat u) (fun (u : Nat) (t : State) => ∃ (niM_thrown : Int32) (niM_trouble : Int32) (niM_breaths : Int32) (niM_cutMany : Int32) (niM_fewestBreaths : Int32) (nfM_heardRow : Nat → Int32) (nfM_cutRow : Nat → Int32) (nfM_trial : Nat → Int32), (0 ≤ niM_breaths.toInt ∧ niM_breaths.toInt ≤ 399) ∧ (0 ≤ niM_cutMany.toInt ∧ niM_cutMany.toInt ≤ 399) ∧ (PX7_first iM_hasCourt fM_r fM_told fM_st iM_scale fM_heardRow fM_cutRow iM_breaths iM_cutMany fM_trial iM_fewestBreaths p0 = (Int32.ofNat u, niM_thrown, niM_trouble, niM_breaths, niM_cutMany, niM_fewestBreaths, nfM_heardRow, nfM_cutRow, nfM_trial)) ∧ Bw dC dI (va_A [(oc7 oM iM_thrown rM_tape iM_taped iM_size iM_at iM_end iM_token iM_whole iM_nameSize iM_fault iM_place iM_trouble rM_letters iM_failed iM_hasCourt rM_r rM_fresh rM_told rM_read rM_st rM_undone rM_kept iM_undos iM_images rM_fresher iM_fresherSize iM_scale iM_night rM_heardRow rM_cutRow iM_breaths iM_cutMany iM_allBreaths rM_trial rM_words iM_fewestBreaths iM_orderMany iM_orderSum iM_leastOrder rM_often iM_setMany iM_someOf iM_allOf iM_allWeight iM_enoughWeight iM_worthSum iM_firstRest iM_leastDrawn), (arI rM_r kM_r 287 fM_r), (arI rM_told kM_told 90 fM_told), (arI rM_st kM_st 90 fM_st), (arI rM_heardRow kM_heardRow 400 fM_heardRow), (arI rM_cutRow kM_cutRow 800 fM_cutRow), (arI rM_trial kM_trial 90 fM_trial)] sz) [(oc7 oM niM_thrown rM_tape iM_taped iM_size iM_at iM_end iM_token iM_whole iM_nameSize iM_fault iM_place niM_trouble rM_letters iM_failed iM_hasCourt rM_r rM_fresh rM_told rM_read rM_st rM_undone rM_kept iM_undos iM_images rM_fresher iM_fresherSize iM_scale iM_night rM_heardRow rM_cutRow niM_breaths niM_cutMany iM_allBreaths rM_trial rM_words niM_fewestBreaths iM_orderMany iM_orderSum iM_leastOrder rM_often iM_setMany iM_someOf iM_allOf iM_allWeight iM_enoughWeight iM_worthSum iM_firstRest iM_leastDrawn), (arI rM_r kM_r 287 fM_r), (arI rM_told kM_told 90 fM_told), (arI rM_st kM_st 90 fM_st), (arI rM_heardRow kM_heardRow 400 nfM_heardRow), (arI rM_cutRow kM_cutRow 800 nfM_cutRow), (arI rM_trial kM_trial 90 nfM_trial)] [(kM_r, .int), (kM_told, .int), (kM_st, .int), (kM_heardRow, .int), (kM_cutRow, .int), (kM_trial, .int)] t) (va_A [(oc7 oM iM_thrown rM_tape iM_taped iM_size iM_at iM_end iM_token iM_whole iM_nameSize iM_fault iM_place iM_trouble rM_letters iM_failed iM_hasCourt rM_r rM_fresh rM_told rM_read rM_st rM_undone rM_kept iM_undos iM_images rM_fresher iM_fresherSize iM_scale iM_night rM_heardRow rM_cutRow iM_breaths iM_cutMany iM_allBreaths rM_trial rM_words iM_fewestBreaths iM_orderMany iM_orderSum iM_leastOrder rM_often iM_setMany iM_someOf iM_allOf iM_allWeight iM_enoughWeight iM_worthSum iM_firstRest iM_leastDrawn), (arI rM_r kM_r 287 fM_r), (arI rM_told kM_told 90 fM_told), (arI rM_st kM_st 90 fM_st), (arI rM_heardRow kM_heardRow 400 fM_heardRow), (arI rM_cutRow kM_cutRow 800 fM_cutRow), (arI rM_trial kM_trial 90 fM_trial)] sz)) 0 0 (va_A [(oc7 oM iM_thrown rM_tape iM_taped iM_size iM_at iM_end iM_token iM_whole iM_nameSize iM_fault iM_place iM_trouble rM_letters iM_failed iM_hasCourt rM_r rM_fresh rM_told rM_read rM_st rM_undone rM_kept iM_undos iM_images rM_fresher iM_fresherSize iM_scale iM_night rM_heardRow rM_cutRow iM_breaths iM_cutMany iM_allBreaths rM_trial rM_words iM_fewestBreaths iM_orderMany iM_orderSum iM_leastOrder rM_often iM_setMany iM_someOf iM_allOf iM_allWeight iM_enoughWeight iM_worthSum iM_firstRest iM_leastDrawn), (arI rM_r kM_r 287 fM_r), (arI rM_told kM_told 90 fM_told), (arI rM_st kM_st 90 fM_st), (arI rM_heardRow kM_heardRow 400 fM_heardRow), (arI rM_cutRow kM_cutRow 800 fM_cutRow), (arI rM_trial kM_trial 90 fM_trial)] sz) := by
  refine Met.ofW (cc := cX7_first) (maxL := 2) (ret := (some .int)) pnX7 rfl ?_
  intro p e s m args below meth c s₁ B hml hv
  obtain ⟨rfl, hsz, hP, hK, hD0, hE⟩ := hv
  have hx := B.exec
  have hb := B.bytes
  have hr := B.returns
  have hts : ∀ w ∈ wG, w.before ([.ref oM, .int p0] : List Value).toArray s = true := fun w h => atoms_spec (ws := Cond.code yX7_first cX7_first 2 (some .int) :: wG) B.pre w (List.mem_cons_of_mem _ h)
  have hown : s.vm.findClass RX7 = some m.cls := own_of B.named rfl
  have hlocks := B.notSynchronized
  subst hsz
  have hD := hD0.self (sz := s.heap.size)
  generalize hAe : va_A [(oc7 oM iM_thrown rM_tape iM_taped iM_size iM_at iM_end iM_token iM_whole iM_nameSize iM_fault iM_place iM_trouble rM_letters iM_failed iM_hasCourt rM_r rM_fresh rM_told rM_read rM_st rM_undone rM_kept iM_undos iM_images rM_fresher iM_fresherSize iM_scale iM_night rM_heardRow rM_cutRow iM_breaths iM_cutMany iM_allBreaths rM_trial rM_words iM_fewestBreaths iM_orderMany iM_orderSum iM_leastOrder rM_often iM_setMany iM_someOf iM_allOf iM_allWeight iM_enoughWeight iM_worthSum iM_firstRest iM_leastDrawn), (arI rM_r kM_r 287 fM_r), (arI rM_told kM_told 90 fM_told), (arI rM_st kM_st 90 fM_st), (arI rM_heardRow kM_heardRow 400 fM_heardRow), (arI rM_cutRow kM_cutRow 800 fM_cutRow), (arI rM_trial kM_trial 90 fM_trial)] s.heap.size = A at hD hE ⊢
  have hA : ∀ q : Nat, s.heap.size ≤ q → A q := fun q h => by rw [← hAe]; exact Or.inr h
  have hS : va_S A s.heap s.heap [] := va_S.rf
  have hl := lv_entry ([.ref oM, .int p0]) (n := 2) (Nat.le_of_ble_eq_true rfl)
  rw [lg_entry_eq]
  generalize (lg_sl ([.ref oM, .int p0]) ++ List.replicate (2 - (lg_sl ([.ref oM, .int p0])).length) Slot.unset).toArray = ls at hl ⊢
  have hl : lv_has ls 2 [(0, .ref oM), (1, .int p0)] := hl
  have hG := PX7_first_eq iM_hasCourt fM_r fM_told fM_st iM_scale fM_heardRow fM_cutRow iM_breaths iM_cutMany fM_trial iM_fewestBreaths p0
  have s_slips := r_R.slips
  have s_nodes := r_R.nodes
  have s_uns := r_R.uns
  refine lv_aload_n hx hb dX7_first_0 rfl (lv_at hl 0 rfl) ?_
  have hMs := ml_of hD [true, false, false, false, false, false, false] (wc := [(oc7 oM iM_thrown rM_tape iM_taped iM_size iM_at iM_end iM_token iM_whole iM_nameSize iM_fault iM_place iM_trouble rM_letters iM_failed iM_hasCourt rM_r rM_fresh rM_told rM_read rM_st rM_undone rM_kept iM_undos iM_images rM_fresher iM_fresherSize iM_scale iM_night rM_heardRow rM_cutRow iM_breaths iM_cutMany iM_allBreaths rM_trial rM_words iM_fewestBreaths iM_orderMany iM_orderSum iM_leastOrder rM_often iM_setMany iM_someOf iM_allOf iM_allWeight iM_enoughWeight iM_worthSum iM_firstRest iM_leastDrawn)]) rfl
  have hFc := va_freeM hD hS hA _ hMs
  refine va_callv (va_runV (As := []) (rest := []) ⟨hx, hb, hml, hown, hts⟩ (tX7_good l dC dI _ oM iM_thrown rM_tape iM_taped iM_size iM_at iM_end iM_token iM_whole iM_nameSize iM_fault iM_place iM_trouble rM_letters iM_failed iM_hasCourt rM_r rM_fresh rM_told rM_read rM_st rM_undone rM_kept iM_undos iM_images rM_fresher iM_fresherSize iM_scale iM_night rM_heardRow rM_cutRow iM_breaths iM_cutMany iM_allBreaths rM_trial rM_words iM_fewestBreaths iM_orderMany iM_orderSum iM_leastOrder rM_often iM_setMany iM_someOf iM_allOf iM_allWeight iM_enoughWeight iM_worthSum iM_firstRest iM_leastDrawn b_iM_taped b_iM_size b_iM_end b_iM_failed b_iM_hasCourt b_iM_undos b_iM_images b_iM_scale b_iM_breaths b_iM_cutMany) (cwV 0 hts (wd_V wd_388 wd_389 wd_390 wd_5 (wd_c wd_391)) rfl rfl rfl dv_yX7_good_0 ⟨Nat.le_of_ble_eq_true rfl, Nat.le_of_ble_eq_true rfl⟩) ⟨Pw.fb, recvX7 hK hP (q0 := 0) rfl, fun U hU hW => Pw.to (hP.ms _ hMs) (hD.ms _ hMs) (hK.ms [false, false, false, false, false, false] rfl) hE hS hFc hU hW⟩ rfl rfl hl.1 rfl (lv_room (Nat.le_of_ble_eq_true rfl)) dX7_first_1 ⟨Nat.le_of_ble_eq_true rfl, Nat.le_of_ble_eq_true rfl⟩) hS (fun q _ h => hFc q h) hFc (fun u t H locs ht hvm hw hB hz1 hk1 hS => ?_)
  refine ex_2_3 hB (fun x_2100 x_2101 b_x_2100 b_x_2101 e_x_2100_0 hB => ?_)
  obtain ⟨hP, hD⟩ := Bw.goN (ws' := [(oc7 oM x_2100 rM_tape iM_taped iM_size iM_at iM_end iM_token iM_whole iM_nameSize iM_fault iM_place x_2101 rM_letters iM_failed iM_hasCourt rM_r rM_fresh rM_told rM_read rM_st rM_undone rM_kept iM_undos iM_images rM_fresher iM_fresherSize iM_scale iM_night rM_heardRow rM_cutRow iM_breaths iM_cutMany iM_allBreaths rM_trial rM_words iM_fewestBreaths iM_orderMany iM_orderSum iM_leastOrder rM_often iM_setMany iM_someOf iM_allOf iM_allWeight iM_enoughWeight iM_worthSum iM_firstRest iM_leastDrawn), (arI rM_r kM_r 287 fM_r), (arI rM_told kM_told 90 fM_told), (arI rM_st kM_st 90 fM_st), (arI rM_heardRow kM_heardRow 400 fM_heardRow), (arI rM_cutRow kM_cutRow 800 fM_cutRow), (arI rM_trial kM_trial 90 fM_trial)]) hB rfl ht hP hD _ hMs hk1 hFc rfl
  clear hz1 hk1 hvm ht hB hMs
  have hG := hG.trans (un2_eq e_x_2100_0)
  refine lv_aload_n hx hb dX7_first_4 rfl (lv_at hl 0 rfl) ?_
  refine lv_iload_n hx hb dX7_first_5 rfl (lv_at hl 1 rfl) ?_
  have hMs := ml_of hD [true, true, false, false, false, false, false] (wc := [(oc7 oM x_2100 rM_tape iM_taped iM_size iM_at iM_end iM_token iM_whole iM_nameSize iM_fault iM_place x_2101 rM_letters iM_failed iM_hasCourt rM_r rM_fresh rM_told rM_read rM_st rM_undone rM_kept iM_undos iM_images rM_fresher iM_fresherSize iM_scale iM_night rM_heardRow rM_cutRow iM_breaths iM_cutMany iM_allBreaths rM_trial rM_words iM_fewestBreaths iM_orderMany iM_orderSum iM_leastOrder rM_often iM_setMany iM_someOf iM_allOf iM_allWeight iM_enoughWeight iM_worthSum iM_firstRest iM_leastDrawn), (arI rM_r kM_r 287 fM_r)]) rfl
  have hFc := va_freeM hD hS hA _ hMs
  refine va_calli (va_runV (As := [.int p0]) (rest := []) ⟨hx, hb, hml, hown, hts⟩ (tX7_isNode l dC dI _ oM x_2100 rM_tape iM_taped iM_size iM_at iM_end iM_token iM_whole iM_nameSize iM_fault iM_place x_2101 rM_letters iM_failed iM_hasCourt rM_r fM_r kM_r rM_fresh rM_told rM_read rM_st rM_undone rM_kept iM_undos iM_images rM_fresher iM_fresherSize iM_scale iM_night rM_heardRow rM_cutRow iM_breaths iM_cutMany iM_allBreaths rM_trial rM_words iM_fewestBreaths iM_orderMany iM_orderSum iM_leastOrder rM_often iM_setMany iM_someOf iM_allOf iM_allWeight iM_enoughWeight iM_worthSum iM_firstRest iM_leastDrawn p0 b_iM_taped b_iM_size b_iM_end b_iM_failed b_iM_hasCourt b_iM_undos b_iM_images b_iM_scale b_iM_breaths b_iM_cutMany (by assumption) (by assumption)) (cwV 1 hts (wd_V wd_544 wd_545 wd_546 wd_5 (wd_c wd_547)) rfl rfl rfl dv_yX7_isNode_1 ⟨Nat.le_of_ble_eq_true rfl, Nat.le_of_ble_eq_true rfl⟩) ⟨Pw.fb, recvX7 hK hP (q0 := 0) rfl, fun U hU hW => Pw.to (hP.ms _ hMs) (hD.ms _ hMs) (hK.ms [true, false, false, false, false, false] rfl) hE hS hFc hU hW⟩ rfl rfl hl.1 rfl (lv_room (Nat.le_of_ble_eq_true rfl)) dX7_first_6 ⟨Nat.le_of_ble_eq_true rfl, Nat.le_of_ble_eq_true rfl⟩) hS (fun q _ h => hFc q h) hFc (fun r u t H locs ht hvm hw hB hz1 hk1 hS => ?_)
  have hru9 := hw.2
  have hw := hw.1
  obtain ⟨hP, hD⟩ := Bw.goN (ws' := [(oc7 oM x_2100 rM_tape iM_taped iM_size iM_at iM_end iM_token iM_whole iM_nameSize iM_fault iM_place x_2101 rM_letters iM_failed iM_hasCourt rM_r rM_fresh rM_told rM_read rM_st rM_undone rM_kept iM_undos iM_images rM_fresher iM_fresherSize iM_scale iM_night rM_heardRow rM_cutRow iM_breaths iM_cutMany iM_allBreaths rM_trial rM_words iM_fewestBreaths iM_orderMany iM_orderSum iM_leastOrder rM_often iM_setMany iM_someOf iM_allOf iM_allWeight iM_enoughWeight iM_worthSum iM_firstRest iM_leastDrawn), (arI rM_r kM_r 287 fM_r), (arI rM_told kM_told 90 fM_told), (arI rM_st kM_st 90 fM_st), (arI rM_heardRow kM_heardRow 400 fM_heardRow), (arI rM_cutRow kM_cutRow 800 fM_cutRow), (arI rM_trial kM_trial 90 fM_trial)]) hB rfl ht hP hD _ hMs hk1 hFc rfl
  clear hz1 hk1 hvm ht hB hMs
  rcases hw.2 with ⟨rfl, hc_2102⟩ | ⟨rfl, hc_2102⟩
  · skip
    have hG := hG.trans (lt_eq hru9.symm)
    have hG := hG.trans (if_pos rfl)
    refine lv_if_eq (tgt := 20) hx hb dX7_first_9 (by decide) (fun c => absurd c (by decide)) (fun _ => ?_)
    refine lv_aload_n hx hb dX7_first_12 rfl (lv_at hl 0 rfl) ?_
    refine lv_iload_n hx hb dX7_first_13 rfl (lv_at hl 1 rfl) ?_
    have hFc := va_freeI hD hS hA
    refine va_calli (va_runV (As := [.int p0]) (rest := []) ⟨hx, hb, hml, hown, hts⟩ (tX7_firstOf l dC dI _ oM x_2100 rM_tape iM_taped iM_size iM_at iM_end iM_token iM_whole iM_nameSize iM_fault iM_place x_2101 rM_letters iM_failed iM_hasCourt rM_r fM_r kM_r rM_fresh rM_told fM_told kM_told rM_read rM_st fM_st kM_st rM_undone rM_kept iM_undos iM_images rM_fresher iM_fresherSize iM_scale iM_night rM_heardRow fM_heardRow kM_heardRow rM_cutRow fM_cutRow kM_cutRow iM_breaths iM_cutMany iM_allBreaths rM_trial fM_trial kM_trial rM_words iM_fewestBreaths iM_orderMany iM_orderSum iM_leastOrder rM_often iM_setMany iM_someOf iM_allOf iM_allWeight iM_enoughWeight iM_worthSum iM_firstRest iM_leastDrawn p0 b_iM_taped b_iM_size b_iM_end b_iM_failed b_iM_hasCourt b_iM_undos b_iM_images b_iM_scale b_iM_breaths b_iM_cutMany (by assumption) (by assumption) (by assumption) (by assumption) (by assumption) ⟨hc_2102.1, hc_2102.2.1⟩ ⟨hc_2102.2.2.2.1, hc_2102.2.2.2.2⟩) (cwV 1 hts (wd_V wd_1027 wd_1028 wd_1029 wd_5 (wd_c wd_1030)) rfl rfl rfl dv_yX7_firstOf_1 ⟨Nat.le_of_ble_eq_true rfl, Nat.le_of_ble_eq_true rfl⟩) ⟨Pw.fb, recvX7 hK hP (q0 := 0) rfl, fun U hU hW => Pw.to hP hD hK hE hS hFc hU hW⟩ rfl rfl hl.1 rfl (lv_room (Nat.le_of_ble_eq_true rfl)) dX7_first_14 ⟨Nat.le_of_ble_eq_true rfl, Nat.le_of_ble_eq_true rfl⟩) hS (fun q _ h => hFc q h) hFc (fun r u t H locs ht hvm hw hB hz1 hk1 hS => ?_)
    have hru9 := hw.2
    have hw := hw.1
    refine ex_6_3 hB (fun x_2105 x_2106 x_2107 f_2108 f_2109 f_2110 b_x_2105 b_x_2106 e_x_2105_0 hB => ?_)
    obtain ⟨hP, hD⟩ := Bw.goA (ws' := [(oc7 oM x_2100 rM_tape iM_taped iM_size iM_at iM_end iM_token iM_whole iM_nameSize iM_fault iM_place x_2101 rM_letters iM_failed iM_hasCourt rM_r rM_fresh rM_told rM_read rM_st rM_undone rM_kept iM_undos iM_images rM_fresher iM_fresherSize iM_scale iM_night rM_heardRow rM_cutRow x_2105 x_2106 iM_allBreaths rM_trial rM_words x_2107 iM_orderMany iM_orderSum iM_leastOrder rM_often iM_setMany iM_someOf iM_allOf iM_allWeight iM_enoughWeight iM_worthSum iM_firstRest iM_leastDrawn), (arI rM_r kM_r 287 fM_r), (arI rM_told kM_told 90 fM_told), (arI rM_st kM_st 90 fM_st), (arI rM_heardRow kM_heardRow 400 f_2108), (arI rM_cutRow kM_cutRow 800 f_2109), (arI rM_trial kM_trial 90 f_2110)]) hB rfl ht hFc rfl
    clear hz1 hk1 hvm ht hB
    rw [← hru9] at e_x_2105_0
    obtain ⟨x_2111, rfl⟩ : ∃ z, z = r := ⟨_, rfl⟩
    have hG := hG.trans (un7_eq e_x_2105_0)
    refine lv_goto (tgt := 25) hx hb dX7_first_17 (by decide) ?_
    exact wq_i hx hb hr (cI x_2111) ⟨⟨trivial, trivial⟩, (cI_of x_2111)⟩ (fun t ht hW => ⟨x_2100, x_2101, x_2105, x_2106, x_2107, f_2108, f_2109, f_2110, b_x_2105, b_x_2106, (cI_tup hG), Bw.to hP hD hK ht hW⟩) hS dX7_first_25 hlocks
  · skip
    have hG := hG.trans (lt_eq hru9.symm)
    have hG := hG.trans (if_neg (by decide))
    refine lv_if_eq (tgt := 20) hx hb dX7_first_9 (by decide) (fun _ => ?_) (fun c => absurd c (by decide))
    refine lv_aload_n hx hb dX7_first_20 rfl (lv_at hl 0 rfl) ?_
    refine lv_iconst (v := 1) hx hb dX7_first_21 (by decide) ?_
    have hMs := ml_of hD [true, false, false, false, false, false, false] (wc := [(oc7 oM x_2100 rM_tape iM_taped iM_size iM_at iM_end iM_token iM_whole iM_nameSize iM_fault iM_place x_2101 rM_letters iM_failed iM_hasCourt rM_r rM_fresh rM_told rM_read rM_st rM_undone rM_kept iM_undos iM_images rM_fresher iM_fresherSize iM_scale iM_night rM_heardRow rM_cutRow iM_breaths iM_cutMany iM_allBreaths rM_trial rM_words iM_fewestBreaths iM_orderMany iM_orderSum iM_leastOrder rM_often iM_setMany iM_someOf iM_allOf iM_allWeight iM_enoughWeight iM_worthSum iM_firstRest iM_leastDrawn)]) rfl
    have hFc := va_freeM hD hS hA _ hMs
    refine va_calli (va_runV (As := [.int 1]) (rest := []) ⟨hx, hb, hml, hown, hts⟩ (tX7_no l dC dI _ oM x_2100 rM_tape iM_taped iM_size iM_at iM_end iM_token iM_whole iM_nameSize iM_fault iM_place x_2101 rM_letters iM_failed iM_hasCourt rM_r rM_fresh rM_told rM_read rM_st rM_undone rM_kept iM_undos iM_images rM_fresher iM_fresherSize iM_scale iM_night rM_heardRow rM_cutRow iM_breaths iM_cutMany iM_allBreaths rM_trial rM_words iM_fewestBreaths iM_orderMany iM_orderSum iM_leastOrder rM_often iM_setMany iM_someOf iM_allOf iM_allWeight iM_enoughWeight iM_worthSum iM_firstRest iM_leastDrawn 1 b_iM_taped b_iM_size b_iM_end b_iM_failed b_iM_hasCourt b_iM_undos b_iM_images b_iM_scale b_iM_breaths b_iM_cutMany) (cwV 1 hts (wd_V wd_396 wd_397 wd_398 wd_5 (wd_c wd_399)) rfl rfl rfl dv_yX7_no_1 ⟨Nat.le_of_ble_eq_true rfl, Nat.le_of_ble_eq_true rfl⟩) ⟨Pw.fb, recvX7 hK hP (q0 := 0) rfl, fun U hU hW => Pw.to (hP.ms _ hMs) (hD.ms _ hMs) (hK.ms [false, false, false, false, false, false] rfl) hE hS hFc hU hW⟩ rfl rfl hl.1 rfl (lv_room (Nat.le_of_ble_eq_true rfl)) dX7_first_22 ⟨Nat.le_of_ble_eq_true rfl, Nat.le_of_ble_eq_true rfl⟩) hS (fun q _ h => hFc q h) hFc (fun r u t H locs ht hvm hw hB hz1 hk1 hS => ?_)
    have hru9 := hw.2
    have hw := hw.1
    refine ex_1_1 hB (fun x_2113 e_x_2113_0 hB => ?_)
    obtain ⟨hP, hD⟩ := Bw.goN (ws' := [(oc7 oM x_2100 rM_tape iM_taped iM_size iM_at iM_end iM_token iM_whole iM_nameSize iM_fault iM_place x_2113 rM_letters iM_failed iM_hasCourt rM_r rM_fresh rM_told rM_read rM_st rM_undone rM_kept iM_undos iM_images rM_fresher iM_fresherSize iM_scale iM_night rM_heardRow rM_cutRow iM_breaths iM_cutMany iM_allBreaths rM_trial rM_words iM_fewestBreaths iM_orderMany iM_orderSum iM_leastOrder rM_often iM_setMany iM_someOf iM_allOf iM_allWeight iM_enoughWeight iM_worthSum iM_firstRest iM_leastDrawn), (arI rM_r kM_r 287 fM_r), (arI rM_told kM_told 90 fM_told), (arI rM_st kM_st 90 fM_st), (arI rM_heardRow kM_heardRow 400 fM_heardRow), (arI rM_cutRow kM_cutRow 800 fM_cutRow), (arI rM_trial kM_trial 90 fM_trial)]) hB rfl ht hP hD _ hMs hk1 hFc rfl
    clear hz1 hk1 hvm ht hB hMs
    rw [← hru9] at e_x_2113_0
    obtain ⟨x_2114, rfl⟩ : ∃ z, z = r := ⟨_, rfl⟩
    have hG := hG.trans (un2_eq e_x_2113_0)
    exact wq_i hx hb hr (cI x_2114) ⟨⟨trivial, trivial⟩, (cI_of x_2114)⟩ (fun t ht hW => ⟨x_2100, x_2113, iM_breaths, iM_cutMany, iM_fewestBreaths, fM_heardRow, fM_cutRow, fM_trial, ⟨b_iM_breaths.1, b_iM_breaths.2⟩, ⟨b_iM_cutMany.1, b_iM_cutMany.2⟩, (cI_tup hG), Bw.to hP hD hK ht hW⟩) hS dX7_first_25 hlocks
set_option maxHeartbeats 4000000 in
set_option maxRecDepth 100000 in
theorem tX7_firstBreaths (l : Launch) (dC : Nat → ClassId) (dI : Nat → Nat → Nat) (sz : Nat) (oM : Nat) (iM_thrown : Int32) (rM_tape : Nat) (iM_taped : Int32) (iM_size : Int32) (iM_at : Int32) (iM_end : Int32) (iM_token : Int32) (iM_whole : Int32) (iM_nameSize : Int32) (iM_fault : Int32) (iM_place : Int32) (iM_trouble : Int32) (rM_letters : Nat) (iM_failed : Int32) (iM_hasCourt : Int32) (rM_r : Nat) (fM_r : Nat → Int32) (kM_r : ClassId) (rM_fresh : Nat) (rM_told : Nat) (fM_told : Nat → Int32) (kM_told : ClassId) (rM_read : Nat) (rM_st : Nat) (fM_st : Nat → Int32) (kM_st : ClassId) (rM_undone : Nat) (rM_kept : Nat) (iM_undos : Int32) (iM_images : Int32) (rM_fresher : Nat) (iM_fresherSize : Int32) (iM_scale : Int32) (iM_night : Int32) (rM_heardRow : Nat) (fM_heardRow : Nat → Int32) (kM_heardRow : ClassId) (rM_cutRow : Nat) (fM_cutRow : Nat → Int32) (kM_cutRow : ClassId) (iM_breaths : Int32) (iM_cutMany : Int32) (iM_allBreaths : Int32) (rM_trial : Nat) (fM_trial : Nat → Int32) (kM_trial : ClassId) (rM_words : Nat) (iM_fewestBreaths : Int32) (iM_orderMany : Int32) (iM_orderSum : Int32) (iM_leastOrder : Int32) (rM_often : Nat) (iM_setMany : Int32) (iM_someOf : Int32) (iM_allOf : Int32) (iM_allWeight : Int64) (iM_enoughWeight : Int64) (iM_worthSum : Int64) (iM_firstRest : Int32) (iM_leastDrawn : Int32) (p0 : Int32) (b_iM_taped : 0 ≤ iM_taped.toInt ∧ iM_taped.toInt ≤ 900) (b_iM_size : 0 ≤ iM_size.toInt ∧ iM_size.toInt ≤ 900) (b_iM_end : 0 ≤ iM_end.toInt ∧ iM_end.toInt ≤ 900) (b_iM_failed : 0 ≤ iM_failed.toInt ∧ iM_failed.toInt ≤ 1) (b_iM_hasCourt : 0 ≤ iM_hasCourt.toInt ∧ iM_hasCourt.toInt ≤ 1) (b_iM_undos : 0 ≤ iM_undos.toInt ∧ iM_undos.toInt ≤ 16) (b_iM_images : 0 ≤ iM_images.toInt ∧ iM_images.toInt ≤ 3) (b_iM_scale : 1 ≤ iM_scale.toInt ∧ iM_scale.toInt ≤ 1296) (b_iM_breaths : 0 ≤ iM_breaths.toInt ∧ iM_breaths.toInt ≤ 399) (b_iM_cutMany : 0 ≤ iM_cutMany.toInt ∧ iM_cutMany.toInt ≤ 399) (r_R : ROk fM_r) (r_C : iM_hasCourt.toInt ≤ 0 ∨ (1 ≤ (fM_r 1).toInt ∧ 0 ≤ (fM_r 6).toInt ∧ (fM_r 6).toInt < (fM_r 1).toInt)) (r_st : RowOk fM_r fM_st) (r_told : RowOk fM_r fM_told) (r_wst : WorOk fM_st)  : Met l yX7_firstBreaths (Cond.code yX7_firstBreaths cX7_firstBreaths 2 (some .int) :: wG) ({ frames := 23, cells := 0, slots := 0, locals := 648 }) (va_Pc [.ref oM, .int p0] (Pw dC dI sz [(oc7 oM iM_thrown rM_tape iM_taped iM_size iM_at iM_end iM_token iM_whole iM_nameSize iM_fault iM_place iM_trouble rM_letters iM_failed iM_hasCourt rM_r rM_fresh rM_told rM_read rM_st rM_undone rM_kept iM_undos iM_images rM_fresher iM_fresherSize iM_scale iM_night rM_heardRow rM_cutRow iM_breaths iM_cutMany iM_allBreaths rM_trial rM_words iM_fewestBreaths iM_orderMany iM_orderSum iM_leastOrder rM_often iM_setMany iM_someOf iM_allOf iM_allWeight iM_enoughWeight iM_worthSum iM_firstRest iM_leastDrawn), (arI rM_r kM_r 287 fM_r), (arI rM_told kM_told 90 fM_told), (arI rM_st kM_st 90 fM_st), (arI rM_heardRow kM_heardRow 400 fM_heardRow), (arI rM_cutRow kM_cutRow 800 fM_cutRow), (arI rM_trial kM_trial 90 fM_trial)] [(kM_r, .int), (kM_told, .int), (kM_st, .int), (kM_heardRow, .int), (kM_cutRow, .int), (kM_trial, .int)])) (va_Qi (fun (r : Int32) (u : Nat) => (True ∧ True) ∧ r = Int32.ofNat u) (fun (u : Nat) (t : State) => ∃ (niM_thrown : Int32) (niM_trouble : Int32) (niM_breaths : Int32) (niM_cutMany : Int32) (niM_fewestBreaths : Int32) (nfM_heardRow : Nat → Int32) (nfM_cutRow : Nat → Int32) (nfM_trial : Nat → Int32), (0 ≤ niM_breaths.toInt ∧ niM_breaths.toInt ≤ 399) ∧ (0 ≤ niM_cutMany.toInt ∧ niM_cutMany.toInt ≤ 399) ∧ (PX7_firstBreaths iM_hasCourt fM_r fM_told fM_st iM_scale fM_heardRow fM_cutRow iM_breaths iM_cutMany fM_trial iM_fewestBreaths p0 = (Int32.ofNat u, niM_thrown, niM_trouble, niM_breaths, niM_cutMany, niM_fewestBreaths, nfM_heardRow, nfM_cutRow, nfM_trial)) ∧ Bw dC dI (va_A [(oc7 oM iM_thrown rM_tape iM_taped iM_size iM_at iM_end iM_token iM_whole iM_nameSize iM_fault iM_place iM_trouble rM_letters iM_failed iM_hasCourt rM_r rM_fresh rM_told rM_read rM_st rM_undone rM_kept iM_undos iM_images rM_fresher iM_fresherSize iM_scale iM_night rM_heardRow rM_cutRow iM_breaths iM_cutMany iM_allBreaths rM_trial rM_words iM_fewestBreaths iM_orderMany iM_orderSum iM_leastOrder rM_often iM_setMany iM_someOf iM_allOf iM_allWeight iM_enoughWeight iM_worthSum iM_firstRest iM_leastDrawn), (arI rM_r kM_r 287 fM_r), (arI rM_told kM_told 90 fM_told), (arI rM_st kM_st 90 fM_st), (arI rM_heardRow kM_heardRow 400 fM_heardRow), (arI rM_cutRow kM_cutRow 800 fM_cutRow), (arI rM_trial kM_trial 90 fM_trial)] sz) [(oc7 oM niM_thrown rM_tape iM_taped iM_size iM_at iM_end iM_token iM_whole iM_nameSize iM_fault iM_place niM_trouble rM_letters iM_failed iM_hasCourt rM_r rM_fresh rM_told rM_read rM_st rM_undone rM_kept iM_undos iM_images rM_fresher iM_fresherSize iM_scale iM_night rM_heardRow rM_cutRow niM_breaths niM_cutMany iM_allBreaths rM_trial rM_words niM_fewestBreaths iM_orderMany iM_orderSum iM_leastOrder rM_often iM_setMany iM_someOf iM_allOf iM_allWeight iM_enoughWeight iM_worthSum iM_firstRest iM_leastDrawn), (arI rM_r kM_r 287 fM_r), (arI rM_told kM_told 90 fM_told), (arI rM_st kM_st 90 fM_st), (arI rM_heardRow kM_heardRow 400 nfM_heardRow), (arI rM_cutRow kM_cutRow 800 nfM_cutRow), (arI rM_trial kM_trial 90 nfM_trial)] [(kM_r, .int), (kM_told, .int), (kM_st, .int), (kM_heardRow, .int), (kM_cutRow, .int), (kM_trial, .int)] t) (va_A [(oc7 oM iM_thrown rM_tape iM_taped iM_size iM_at iM_end iM_token iM_whole iM_nameSize iM_fault iM_place iM_trouble rM_letters iM_failed iM_hasCourt rM_r rM_fresh rM_told rM_read rM_st rM_undone rM_kept iM_undos iM_images rM_fresher iM_fresherSize iM_scale iM_night rM_heardRow rM_cutRow iM_breaths iM_cutMany iM_allBreaths rM_trial rM_words iM_fewestBreaths iM_orderMany iM_orderSum iM_leastOrder rM_often iM_setMany iM_someOf iM_allOf iM_allWeight iM_enoughWeight iM_worthSum iM_firstRest iM_leastDrawn), (arI rM_r kM_r 287 fM_r), (arI rM_told kM_told 90 fM_told), (arI rM_st kM_st 90 fM_st), (arI rM_heardRow kM_heardRow 400 fM_heardRow), (arI rM_cutRow kM_cutRow 800 fM_cutRow), (arI rM_trial kM_trial 90 fM_trial)] sz)) 0 0 (va_A [(oc7 oM iM_thrown rM_tape iM_taped iM_size iM_at iM_end iM_token iM_whole iM_nameSize iM_fault iM_place iM_trouble rM_letters iM_failed iM_hasCourt rM_r rM_fresh rM_told rM_read rM_st rM_undone rM_kept iM_undos iM_images rM_fresher iM_fresherSize iM_scale iM_night rM_heardRow rM_cutRow iM_breaths iM_cutMany iM_allBreaths rM_trial rM_words iM_fewestBreaths iM_orderMany iM_orderSum iM_leastOrder rM_often iM_setMany iM_someOf iM_allOf iM_allWeight iM_enoughWeight iM_worthSum iM_firstRest iM_leastDrawn), (arI rM_r kM_r 287 fM_r), (arI rM_told kM_told 90 fM_told), (arI rM_st kM_st 90 fM_st), (arI rM_heardRow kM_heardRow 400 fM_heardRow), (arI rM_cutRow kM_cutRow 800 fM_cutRow), (arI rM_trial kM_trial 90 fM_trial)] sz) := by
  refine Met.ofW (cc := cX7_firstBreaths) (maxL := 2) (ret := (some .int)) pnX7 rfl ?_
  intro p e s m args below meth c s₁ B hml hv
  obtain ⟨rfl, hsz, hP, hK, hD0, hE⟩ := hv
  have hx := B.exec
  have hb := B.bytes
  have hr := B.returns
  have hts : ∀ w ∈ wG, w.before ([.ref oM, .int p0] : List Value).toArray s = true := fun w h => atoms_spec (ws := Cond.code yX7_firstBreaths cX7_firstBreaths 2 (some .int) :: wG) B.pre w (List.mem_cons_of_mem _ h)
  have hown : s.vm.findClass RX7 = some m.cls := own_of B.named rfl
  have hlocks := B.notSynchronized
  subst hsz
  have hD := hD0.self (sz := s.heap.size)
  generalize hAe : va_A [(oc7 oM iM_thrown rM_tape iM_taped iM_size iM_at iM_end iM_token iM_whole iM_nameSize iM_fault iM_place iM_trouble rM_letters iM_failed iM_hasCourt rM_r rM_fresh rM_told rM_read rM_st rM_undone rM_kept iM_undos iM_images rM_fresher iM_fresherSize iM_scale iM_night rM_heardRow rM_cutRow iM_breaths iM_cutMany iM_allBreaths rM_trial rM_words iM_fewestBreaths iM_orderMany iM_orderSum iM_leastOrder rM_often iM_setMany iM_someOf iM_allOf iM_allWeight iM_enoughWeight iM_worthSum iM_firstRest iM_leastDrawn), (arI rM_r kM_r 287 fM_r), (arI rM_told kM_told 90 fM_told), (arI rM_st kM_st 90 fM_st), (arI rM_heardRow kM_heardRow 400 fM_heardRow), (arI rM_cutRow kM_cutRow 800 fM_cutRow), (arI rM_trial kM_trial 90 fM_trial)] s.heap.size = A at hD hE ⊢
  have hA : ∀ q : Nat, s.heap.size ≤ q → A q := fun q h => by rw [← hAe]; exact Or.inr h
  have hS : va_S A s.heap s.heap [] := va_S.rf
  have hl := lv_entry ([.ref oM, .int p0]) (n := 2) (Nat.le_of_ble_eq_true rfl)
  rw [lg_entry_eq]
  generalize (lg_sl ([.ref oM, .int p0]) ++ List.replicate (2 - (lg_sl ([.ref oM, .int p0])).length) Slot.unset).toArray = ls at hl ⊢
  have hl : lv_has ls 2 [(0, .ref oM), (1, .int p0)] := hl
  have hG := PX7_firstBreaths_eq iM_hasCourt fM_r fM_told fM_st iM_scale fM_heardRow fM_cutRow iM_breaths iM_cutMany fM_trial iM_fewestBreaths p0
  have s_slips := r_R.slips
  have s_nodes := r_R.nodes
  have s_uns := r_R.uns
  refine lv_aload_n hx hb dX7_firstBreaths_0 rfl (lv_at hl 0 rfl) ?_
  have hMs := ml_of hD [true, false, false, false, false, false, false] (wc := [(oc7 oM iM_thrown rM_tape iM_taped iM_size iM_at iM_end iM_token iM_whole iM_nameSize iM_fault iM_place iM_trouble rM_letters iM_failed iM_hasCourt rM_r rM_fresh rM_told rM_read rM_st rM_undone rM_kept iM_undos iM_images rM_fresher iM_fresherSize iM_scale iM_night rM_heardRow rM_cutRow iM_breaths iM_cutMany iM_allBreaths rM_trial rM_words iM_fewestBreaths iM_orderMany iM_orderSum iM_leastOrder rM_often iM_setMany iM_someOf iM_allOf iM_allWeight iM_enoughWeight iM_worthSum iM_firstRest iM_leastDrawn)]) rfl
  have hFc := va_freeM hD hS hA _ hMs
  refine va_callv (va_runV (As := []) (rest := []) ⟨hx, hb, hml, hown, hts⟩ (tX7_good l dC dI _ oM iM_thrown rM_tape iM_taped iM_size iM_at iM_end iM_token iM_whole iM_nameSize iM_fault iM_place iM_trouble rM_letters iM_failed iM_hasCourt rM_r rM_fresh rM_told rM_read rM_st rM_undone rM_kept iM_undos iM_images rM_fresher iM_fresherSize iM_scale iM_night rM_heardRow rM_cutRow iM_breaths iM_cutMany iM_allBreaths rM_trial rM_words iM_fewestBreaths iM_orderMany iM_orderSum iM_leastOrder rM_often iM_setMany iM_someOf iM_allOf iM_allWeight iM_enoughWeight iM_worthSum iM_firstRest iM_leastDrawn b_iM_taped b_iM_size b_iM_end b_iM_failed b_iM_hasCourt b_iM_undos b_iM_images b_iM_scale b_iM_breaths b_iM_cutMany) (cwV 0 hts (wd_V wd_388 wd_389 wd_390 wd_5 (wd_c wd_391)) rfl rfl rfl dv_yX7_good_0 ⟨Nat.le_of_ble_eq_true rfl, Nat.le_of_ble_eq_true rfl⟩) ⟨Pw.fb, recvX7 hK hP (q0 := 0) rfl, fun U hU hW => Pw.to (hP.ms _ hMs) (hD.ms _ hMs) (hK.ms [false, false, false, false, false, false] rfl) hE hS hFc hU hW⟩ rfl rfl hl.1 rfl (lv_room (Nat.le_of_ble_eq_true rfl)) dX7_firstBreaths_1 ⟨Nat.le_of_ble_eq_true rfl, Nat.le_of_ble_eq_true rfl⟩) hS (fun q _ h => hFc q h) hFc (fun u t H locs ht hvm hw hB hz1 hk1 hS => ?_)
  refine ex_2_3 hB (fun x_2129 x_2130 b_x_2129 b_x_2130 e_x_2129_0 hB => ?_)
  obtain ⟨hP, hD⟩ := Bw.goN (ws' := [(oc7 oM x_2129 rM_tape iM_taped iM_size iM_at iM_end iM_token iM_whole iM_nameSize iM_fault iM_place x_2130 rM_letters iM_failed iM_hasCourt rM_r rM_fresh rM_told rM_read rM_st rM_undone rM_kept iM_undos iM_images rM_fresher iM_fresherSize iM_scale iM_night rM_heardRow rM_cutRow iM_breaths iM_cutMany iM_allBreaths rM_trial rM_words iM_fewestBreaths iM_orderMany iM_orderSum iM_leastOrder rM_often iM_setMany iM_someOf iM_allOf iM_allWeight iM_enoughWeight iM_worthSum iM_firstRest iM_leastDrawn), (arI rM_r kM_r 287 fM_r), (arI rM_told kM_told 90 fM_told), (arI rM_st kM_st 90 fM_st), (arI rM_heardRow kM_heardRow 400 fM_heardRow), (arI rM_cutRow kM_cutRow 800 fM_cutRow), (arI rM_trial kM_trial 90 fM_trial)]) hB rfl ht hP hD _ hMs hk1 hFc rfl
  clear hz1 hk1 hvm ht hB hMs
  have hG := hG.trans (un2_eq e_x_2129_0)
  refine lv_aload_n hx hb dX7_firstBreaths_4 rfl (lv_at hl 0 rfl) ?_
  refine lv_iload_n hx hb dX7_firstBreaths_5 rfl (lv_at hl 1 rfl) ?_
  have hMs := ml_of hD [true, true, false, false, false, false, false] (wc := [(oc7 oM x_2129 rM_tape iM_taped iM_size iM_at iM_end iM_token iM_whole iM_nameSize iM_fault iM_place x_2130 rM_letters iM_failed iM_hasCourt rM_r rM_fresh rM_told rM_read rM_st rM_undone rM_kept iM_undos iM_images rM_fresher iM_fresherSize iM_scale iM_night rM_heardRow rM_cutRow iM_breaths iM_cutMany iM_allBreaths rM_trial rM_words iM_fewestBreaths iM_orderMany iM_orderSum iM_leastOrder rM_often iM_setMany iM_someOf iM_allOf iM_allWeight iM_enoughWeight iM_worthSum iM_firstRest iM_leastDrawn), (arI rM_r kM_r 287 fM_r)]) rfl
  have hFc := va_freeM hD hS hA _ hMs
  refine va_calli (va_runV (As := [.int p0]) (rest := []) ⟨hx, hb, hml, hown, hts⟩ (tX7_isNode l dC dI _ oM x_2129 rM_tape iM_taped iM_size iM_at iM_end iM_token iM_whole iM_nameSize iM_fault iM_place x_2130 rM_letters iM_failed iM_hasCourt rM_r fM_r kM_r rM_fresh rM_told rM_read rM_st rM_undone rM_kept iM_undos iM_images rM_fresher iM_fresherSize iM_scale iM_night rM_heardRow rM_cutRow iM_breaths iM_cutMany iM_allBreaths rM_trial rM_words iM_fewestBreaths iM_orderMany iM_orderSum iM_leastOrder rM_often iM_setMany iM_someOf iM_allOf iM_allWeight iM_enoughWeight iM_worthSum iM_firstRest iM_leastDrawn p0 b_iM_taped b_iM_size b_iM_end b_iM_failed b_iM_hasCourt b_iM_undos b_iM_images b_iM_scale b_iM_breaths b_iM_cutMany (by assumption) (by assumption)) (cwV 1 hts (wd_V wd_544 wd_545 wd_546 wd_5 (wd_c wd_547)) rfl rfl rfl dv_yX7_isNode_1 ⟨Nat.le_of_ble_eq_true rfl, Nat.le_of_ble_eq_true rfl⟩) ⟨Pw.fb, recvX7 hK hP (q0 := 0) rfl, fun U hU hW => Pw.to (hP.ms _ hMs) (hD.ms _ hMs) (hK.ms [true, false, false, false, false, false] rfl) hE hS hFc hU hW⟩ rfl rfl hl.1 rfl (lv_room (Nat.le_of_ble_eq_true rfl)) dX7_firstBreaths_6 ⟨Nat.le_of_ble_eq_true rfl, Nat.le_of_ble_eq_true rfl⟩) hS (fun q _ h => hFc q h) hFc (fun r u t H locs ht hvm hw hB hz1 hk1 hS => ?_)
  have hru9 := hw.2
  have hw := hw.1
  obtain ⟨hP, hD⟩ := Bw.goN (ws' := [(oc7 oM x_2129 rM_tape iM_taped iM_size iM_at iM_end iM_token iM_whole iM_nameSize iM_fault iM_place x_2130 rM_letters iM_failed iM_hasCourt rM_r rM_fresh rM_told rM_read rM_st rM_undone rM_kept iM_undos iM_images rM_fresher iM_fresherSize iM_scale iM_night rM_heardRow rM_cutRow iM_breaths iM_cutMany iM_allBreaths rM_trial rM_words iM_fewestBreaths iM_orderMany iM_orderSum iM_leastOrder rM_often iM_setMany iM_someOf iM_allOf iM_allWeight iM_enoughWeight iM_worthSum iM_firstRest iM_leastDrawn), (arI rM_r kM_r 287 fM_r), (arI rM_told kM_told 90 fM_told), (arI rM_st kM_st 90 fM_st), (arI rM_heardRow kM_heardRow 400 fM_heardRow), (arI rM_cutRow kM_cutRow 800 fM_cutRow), (arI rM_trial kM_trial 90 fM_trial)]) hB rfl ht hP hD _ hMs hk1 hFc rfl
  clear hz1 hk1 hvm ht hB hMs
  rcases hw.2 with ⟨rfl, hc_2131⟩ | ⟨rfl, hc_2131⟩
  · skip
    have hG := hG.trans (lt_eq hru9.symm)
    have hG := hG.trans (if_pos rfl)
    refine lv_if_ne (tgt := 18) hx hb dX7_firstBreaths_9 (by decide) (fun _ => ?_) (fun c => absurd c (by decide))
    refine lv_aload_n hx hb dX7_firstBreaths_18 rfl (lv_at hl 0 rfl) ?_
    refine lv_iload_n hx hb dX7_firstBreaths_19 rfl (lv_at hl 1 rfl) ?_
    have hFc := va_freeI hD hS hA
    refine va_calli (va_runV (As := [.int p0]) (rest := []) ⟨hx, hb, hml, hown, hts⟩ (tX7_firstOf l dC dI _ oM x_2129 rM_tape iM_taped iM_size iM_at iM_end iM_token iM_whole iM_nameSize iM_fault iM_place x_2130 rM_letters iM_failed iM_hasCourt rM_r fM_r kM_r rM_fresh rM_told fM_told kM_told rM_read rM_st fM_st kM_st rM_undone rM_kept iM_undos iM_images rM_fresher iM_fresherSize iM_scale iM_night rM_heardRow fM_heardRow kM_heardRow rM_cutRow fM_cutRow kM_cutRow iM_breaths iM_cutMany iM_allBreaths rM_trial fM_trial kM_trial rM_words iM_fewestBreaths iM_orderMany iM_orderSum iM_leastOrder rM_often iM_setMany iM_someOf iM_allOf iM_allWeight iM_enoughWeight iM_worthSum iM_firstRest iM_leastDrawn p0 b_iM_taped b_iM_size b_iM_end b_iM_failed b_iM_hasCourt b_iM_undos b_iM_images b_iM_scale b_iM_breaths b_iM_cutMany (by assumption) (by assumption) (by assumption) (by assumption) (by assumption) ⟨hc_2131.1, hc_2131.2.1⟩ ⟨hc_2131.2.2.2.1, hc_2131.2.2.2.2⟩) (cwV 1 hts (wd_V wd_1027 wd_1028 wd_1029 wd_5 (wd_c wd_1030)) rfl rfl rfl dv_yX7_firstOf_1 ⟨Nat.le_of_ble_eq_true rfl, Nat.le_of_ble_eq_true rfl⟩) ⟨Pw.fb, recvX7 hK hP (q0 := 0) rfl, fun U hU hW => Pw.to hP hD hK hE hS hFc hU hW⟩ rfl rfl hl.1 rfl (lv_room (Nat.le_of_ble_eq_true rfl)) dX7_firstBreaths_20 ⟨Nat.le_of_ble_eq_true rfl, Nat.le_of_ble_eq_true rfl⟩) hS (fun q _ h => hFc q h) hFc (fun r u t H locs ht hvm hw hB hz1 hk1 hS => ?_)
    have hru9 := hw.2
    have hw := hw.1
    refine ex_6_3 hB (fun x_2134 x_2135 x_2136 f_2137 f_2138 f_2139 b_x_2134 b_x_2135 e_x_2134_0 hB => ?_)
    obtain ⟨hP, hD⟩ := Bw.goA (ws' := [(oc7 oM x_2129 rM_tape iM_taped iM_size iM_at iM_end iM_token iM_whole iM_nameSize iM_fault iM_place x_2130 rM_letters iM_failed iM_hasCourt rM_r rM_fresh rM_told rM_read rM_st rM_undone rM_kept iM_undos iM_images rM_fresher iM_fresherSize iM_scale iM_night rM_heardRow rM_cutRow x_2134 x_2135 iM_allBreaths rM_trial rM_words x_2136 iM_orderMany iM_orderSum iM_leastOrder rM_often iM_setMany iM_someOf iM_allOf iM_allWeight iM_enoughWeight iM_worthSum iM_firstRest iM_leastDrawn), (arI rM_r kM_r 287 fM_r), (arI rM_told kM_told 90 fM_told), (arI rM_st kM_st 90 fM_st), (arI rM_heardRow kM_heardRow 400 f_2137), (arI rM_cutRow kM_cutRow 800 f_2138), (arI rM_trial kM_trial 90 f_2139)]) hB rfl ht hFc rfl
    clear hz1 hk1 hvm ht hB
    rw [← hru9] at e_x_2134_0
    obtain ⟨x_2140, rfl⟩ : ∃ z, z = r := ⟨_, rfl⟩
    have hG := hG.trans (un7_eq e_x_2134_0)
    refine lv_pop hx hb dX7_firstBreaths_23 rfl ?_
    refine lv_aload_n hx hb dX7_firstBreaths_24 rfl (lv_at hl 0 rfl) ?_
    refine va_get (D := (dC, dI)) (ci := 7) (v := .int x_2136) (C := RX7) (T := TX7) (N := 48) hx hb hts inX7 hown hK hP 0 rfl rfl 35 (by decide) (hts _ wd_1031) (fun _ h9 => h9) rfl dX7_firstBreaths_25 ?_
    exact wq_i hx hb hr (cI x_2136) ⟨⟨trivial, trivial⟩, (cI_of x_2136)⟩ (fun t ht hW => ⟨x_2129, x_2130, x_2134, x_2135, x_2136, f_2137, f_2138, f_2139, b_x_2134, b_x_2135, (cI_tup hG), Bw.to hP hD hK ht hW⟩) hS dX7_firstBreaths_28 hlocks
  · skip
    have hG := hG.trans (lt_eq hru9.symm)
    have hG := hG.trans (if_neg (by decide))
    refine lv_if_ne (tgt := 18) hx hb dX7_firstBreaths_9 (by decide) (fun c => absurd c (by decide)) (fun _ => ?_)
    refine lv_aload_n hx hb dX7_firstBreaths_12 rfl (lv_at hl 0 rfl) ?_
    refine lv_iconst (v := 1) hx hb dX7_firstBreaths_13 (by decide) ?_
    have hMs := ml_of hD [true, false, false, false, false, false, false] (wc := [(oc7 oM x_2129 rM_tape iM_taped iM_size iM_at iM_end iM_token iM_whole iM_nameSize iM_fault iM_place x_2130 rM_letters iM_failed iM_hasCourt rM_r rM_fresh rM_told rM_read rM_st rM_undone rM_kept iM_undos iM_images rM_fresher iM_fresherSize iM_scale iM_night rM_heardRow rM_cutRow iM_breaths iM_cutMany iM_allBreaths rM_trial rM_words iM_fewestBreaths iM_orderMany iM_orderSum iM_leastOrder rM_often iM_setMany iM_someOf iM_allOf iM_allWeight iM_enoughWeight iM_worthSum iM_firstRest iM_leastDrawn)]) rfl
    have hFc := va_freeM hD hS hA _ hMs
    refine va_calli (va_runV (As := [.int 1]) (rest := []) ⟨hx, hb, hml, hown, hts⟩ (tX7_no l dC dI _ oM x_2129 rM_tape iM_taped iM_size iM_at iM_end iM_token iM_whole iM_nameSize iM_fault iM_place x_2130 rM_letters iM_failed iM_hasCourt rM_r rM_fresh rM_told rM_read rM_st rM_undone rM_kept iM_undos iM_images rM_fresher iM_fresherSize iM_scale iM_night rM_heardRow rM_cutRow iM_breaths iM_cutMany iM_allBreaths rM_trial rM_words iM_fewestBreaths iM_orderMany iM_orderSum iM_leastOrder rM_often iM_setMany iM_someOf iM_allOf iM_allWeight iM_enoughWeight iM_worthSum iM_firstRest iM_leastDrawn 1 b_iM_taped b_iM_size b_iM_end b_iM_failed b_iM_hasCourt b_iM_undos b_iM_images b_iM_scale b_iM_breaths b_iM_cutMany) (cwV 1 hts (wd_V wd_396 wd_397 wd_398 wd_5 (wd_c wd_399)) rfl rfl rfl dv_yX7_no_1 ⟨Nat.le_of_ble_eq_true rfl, Nat.le_of_ble_eq_true rfl⟩) ⟨Pw.fb, recvX7 hK hP (q0 := 0) rfl, fun U hU hW => Pw.to (hP.ms _ hMs) (hD.ms _ hMs) (hK.ms [false, false, false, false, false, false] rfl) hE hS hFc hU hW⟩ rfl rfl hl.1 rfl (lv_room (Nat.le_of_ble_eq_true rfl)) dX7_firstBreaths_14 ⟨Nat.le_of_ble_eq_true rfl, Nat.le_of_ble_eq_true rfl⟩) hS (fun q _ h => hFc q h) hFc (fun r u t H locs ht hvm hw hB hz1 hk1 hS => ?_)
    have hru9 := hw.2
    have hw := hw.1
    refine ex_1_1 hB (fun x_2142 e_x_2142_0 hB => ?_)
    obtain ⟨hP, hD⟩ := Bw.goN (ws' := [(oc7 oM x_2129 rM_tape iM_taped iM_size iM_at iM_end iM_token iM_whole iM_nameSize iM_fault iM_place x_2142 rM_letters iM_failed iM_hasCourt rM_r rM_fresh rM_told rM_read rM_st rM_undone rM_kept iM_undos iM_images rM_fresher iM_fresherSize iM_scale iM_night rM_heardRow rM_cutRow iM_breaths iM_cutMany iM_allBreaths rM_trial rM_words iM_fewestBreaths iM_orderMany iM_orderSum iM_leastOrder rM_often iM_setMany iM_someOf iM_allOf iM_allWeight iM_enoughWeight iM_worthSum iM_firstRest iM_leastDrawn), (arI rM_r kM_r 287 fM_r), (arI rM_told kM_told 90 fM_told), (arI rM_st kM_st 90 fM_st), (arI rM_heardRow kM_heardRow 400 fM_heardRow), (arI rM_cutRow kM_cutRow 800 fM_cutRow), (arI rM_trial kM_trial 90 fM_trial)]) hB rfl ht hP hD _ hMs hk1 hFc rfl
    clear hz1 hk1 hvm ht hB hMs
    rw [← hru9] at e_x_2142_0
    obtain ⟨x_2143, rfl⟩ : ∃ z, z = r := ⟨_, rfl⟩
    have hG := hG.trans (un2_eq e_x_2142_0)
    exact wq_i hx hb hr (cI x_2143) ⟨⟨trivial, trivial⟩, (cI_of x_2143)⟩ (fun t ht hW => ⟨x_2129, x_2142, iM_breaths, iM_cutMany, iM_fewestBreaths, fM_heardRow, fM_cutRow, fM_trial, ⟨b_iM_breaths.1, b_iM_breaths.2⟩, ⟨b_iM_cutMany.1, b_iM_cutMany.2⟩, (cI_tup hG), Bw.to hP hD hK ht hW⟩) hS dX7_firstBreaths_17 hlocks
set_option maxHeartbeats 4000000 in
set_option maxRecDepth 100000 in
theorem tX7_throneAt (l : Launch) (dC : Nat → ClassId) (dI : Nat → Nat → Nat) (sz : Nat) (oM : Nat) (iM_thrown : Int32) (rM_tape : Nat) (iM_taped : Int32) (iM_size : Int32) (iM_at : Int32) (iM_end : Int32) (iM_token : Int32) (iM_whole : Int32) (iM_nameSize : Int32) (iM_fault : Int32) (iM_place : Int32) (iM_trouble : Int32) (rM_letters : Nat) (iM_failed : Int32) (iM_hasCourt : Int32) (rM_r : Nat) (fM_r : Nat → Int32) (kM_r : ClassId) (rM_fresh : Nat) (rM_told : Nat) (fM_told : Nat → Int32) (kM_told : ClassId) (rM_read : Nat) (rM_st : Nat) (fM_st : Nat → Int32) (kM_st : ClassId) (rM_undone : Nat) (rM_kept : Nat) (iM_undos : Int32) (iM_images : Int32) (rM_fresher : Nat) (iM_fresherSize : Int32) (iM_scale : Int32) (iM_night : Int32) (rM_heardRow : Nat) (rM_cutRow : Nat) (iM_breaths : Int32) (iM_cutMany : Int32) (iM_allBreaths : Int32) (rM_trial : Nat) (rM_words : Nat) (iM_fewestBreaths : Int32) (iM_orderMany : Int32) (iM_orderSum : Int32) (iM_leastOrder : Int32) (rM_often : Nat) (iM_setMany : Int32) (iM_someOf : Int32) (iM_allOf : Int32) (iM_allWeight : Int64) (iM_enoughWeight : Int64) (iM_worthSum : Int64) (iM_firstRest : Int32) (iM_leastDrawn : Int32) (p0 : Int32) (b_iM_taped : 0 ≤ iM_taped.toInt ∧ iM_taped.toInt ≤ 900) (b_iM_size : 0 ≤ iM_size.toInt ∧ iM_size.toInt ≤ 900) (b_iM_end : 0 ≤ iM_end.toInt ∧ iM_end.toInt ≤ 900) (b_iM_failed : 0 ≤ iM_failed.toInt ∧ iM_failed.toInt ≤ 1) (b_iM_hasCourt : 0 ≤ iM_hasCourt.toInt ∧ iM_hasCourt.toInt ≤ 1) (b_iM_undos : 0 ≤ iM_undos.toInt ∧ iM_undos.toInt ≤ 16) (b_iM_images : 0 ≤ iM_images.toInt ∧ iM_images.toInt ≤ 3) (b_iM_scale : 1 ≤ iM_scale.toInt ∧ iM_scale.toInt ≤ 1296) (b_iM_breaths : 0 ≤ iM_breaths.toInt ∧ iM_breaths.toInt ≤ 399) (b_iM_cutMany : 0 ≤ iM_cutMany.toInt ∧ iM_cutMany.toInt ≤ 399) (r_R : ROk fM_r) (r_C : iM_hasCourt.toInt ≤ 0 ∨ (1 ≤ (fM_r 1).toInt ∧ 0 ≤ (fM_r 6).toInt ∧ (fM_r 6).toInt < (fM_r 1).toInt)) (r_st : RowOk fM_r fM_st) (r_told : RowOk fM_r fM_told) (r_wst : WorOk fM_st) (hth : 0 ≤ (fM_r 6).toInt ∧ (fM_r 6).toInt < (fM_r 1).toInt) : Met l yX7_throneAt (Cond.code yX7_throneAt cX7_throneAt 3 (some .int) :: wG) ({ frames := 22, cells := 0, slots := 0, locals := 585 }) (va_Pc [.ref oM, .int p0] (Pw dC dI sz [(oc7 oM iM_thrown rM_tape iM_taped iM_size iM_at iM_end iM_token iM_whole iM_nameSize iM_fault iM_place iM_trouble rM_letters iM_failed iM_hasCourt rM_r rM_fresh rM_told rM_read rM_st rM_undone rM_kept iM_undos iM_images rM_fresher iM_fresherSize iM_scale iM_night rM_heardRow rM_cutRow iM_breaths iM_cutMany iM_allBreaths rM_trial rM_words iM_fewestBreaths iM_orderMany iM_orderSum iM_leastOrder rM_often iM_setMany iM_someOf iM_allOf iM_allWeight iM_enoughWeight iM_worthSum iM_firstRest iM_leastDrawn), (arI rM_r kM_r 287 fM_r), (arI rM_told kM_told 90 fM_told), (arI rM_st kM_st 90 fM_st)] [(kM_r, .int), (kM_told, .int), (kM_st, .int)])) (va_Qi (fun (r : Int32) (u : Nat) => (True ∧ True) ∧ r = Int32.ofNat u) (fun (u : Nat) (t : State) => ∃ (niM_night : Int32), ((-1) ≤ niM_night.toInt ∧ niM_night.toInt ≤ (-1)) ∧ (PX7_throneAt fM_r fM_told fM_st iM_scale p0 = (Int32.ofNat u, niM_night)) ∧ Bw dC dI (va_A [(oc7 oM iM_thrown rM_tape iM_taped iM_size iM_at iM_end iM_token iM_whole iM_nameSize iM_fault iM_place iM_trouble rM_letters iM_failed iM_hasCourt rM_r rM_fresh rM_told rM_read rM_st rM_undone rM_kept iM_undos iM_images rM_fresher iM_fresherSize iM_scale iM_night rM_heardRow rM_cutRow iM_breaths iM_cutMany iM_allBreaths rM_trial rM_words iM_fewestBreaths iM_orderMany iM_orderSum iM_leastOrder rM_often iM_setMany iM_someOf iM_allOf iM_allWeight iM_enoughWeight iM_worthSum iM_firstRest iM_leastDrawn), (arI rM_r kM_r 287 fM_r), (arI rM_told kM_told 90 fM_told), (arI rM_st kM_st 90 fM_st)] sz) [(oc7 oM iM_thrown rM_tape iM_taped iM_size iM_at iM_end iM_token iM_whole iM_nameSize iM_fault iM_place iM_trouble rM_letters iM_failed iM_hasCourt rM_r rM_fresh rM_told rM_read rM_st rM_undone rM_kept iM_undos iM_images rM_fresher iM_fresherSize iM_scale niM_night rM_heardRow rM_cutRow iM_breaths iM_cutMany iM_allBreaths rM_trial rM_words iM_fewestBreaths iM_orderMany iM_orderSum iM_leastOrder rM_often iM_setMany iM_someOf iM_allOf iM_allWeight iM_enoughWeight iM_worthSum iM_firstRest iM_leastDrawn), (arI rM_r kM_r 287 fM_r), (arI rM_told kM_told 90 fM_told), (arI rM_st kM_st 90 fM_st)] [(kM_r, .int), (kM_told, .int), (kM_st, .int)] t) (va_A [(oc7 oM iM_thrown rM_tape iM_taped iM_size iM_at iM_end iM_token iM_whole iM_nameSize iM_fault iM_place iM_trouble rM_letters iM_failed iM_hasCourt rM_r rM_fresh rM_told rM_read rM_st rM_undone rM_kept iM_undos iM_images rM_fresher iM_fresherSize iM_scale iM_night rM_heardRow rM_cutRow iM_breaths iM_cutMany iM_allBreaths rM_trial rM_words iM_fewestBreaths iM_orderMany iM_orderSum iM_leastOrder rM_often iM_setMany iM_someOf iM_allOf iM_allWeight iM_enoughWeight iM_worthSum iM_firstRest iM_leastDrawn), (arI rM_r kM_r 287 fM_r), (arI rM_told kM_told 90 fM_told), (arI rM_st kM_st 90 fM_st)] sz)) 0 0 (va_A [(oc7 oM iM_thrown rM_tape iM_taped iM_size iM_at iM_end iM_token iM_whole iM_nameSize iM_fault iM_place iM_trouble rM_letters iM_failed iM_hasCourt rM_r rM_fresh rM_told rM_read rM_st rM_undone rM_kept iM_undos iM_images rM_fresher iM_fresherSize iM_scale iM_night rM_heardRow rM_cutRow iM_breaths iM_cutMany iM_allBreaths rM_trial rM_words iM_fewestBreaths iM_orderMany iM_orderSum iM_leastOrder rM_often iM_setMany iM_someOf iM_allOf iM_allWeight iM_enoughWeight iM_worthSum iM_firstRest iM_leastDrawn), (arI rM_r kM_r 287 fM_r), (arI rM_told kM_told 90 fM_told), (arI rM_st kM_st 90 fM_st)] sz) := by
  refine Met.ofW (cc := cX7_throneAt) (maxL := 3) (ret := (some .int)) pnX7 rfl ?_
  intro p e s m args below meth c s₁ B hml hv
  obtain ⟨rfl, hsz, hP, hK, hD0, hE⟩ := hv
  have hx := B.exec
  have hb := B.bytes
  have hr := B.returns
  have hts : ∀ w ∈ wG, w.before ([.ref oM, .int p0] : List Value).toArray s = true := fun w h => atoms_spec (ws := Cond.code yX7_throneAt cX7_throneAt 3 (some .int) :: wG) B.pre w (List.mem_cons_of_mem _ h)
  have hown : s.vm.findClass RX7 = some m.cls := own_of B.named rfl
  have hlocks := B.notSynchronized
  subst hsz
  have hD := hD0.self (sz := s.heap.size)
  generalize hAe : va_A [(oc7 oM iM_thrown rM_tape iM_taped iM_size iM_at iM_end iM_token iM_whole iM_nameSize iM_fault iM_place iM_trouble rM_letters iM_failed iM_hasCourt rM_r rM_fresh rM_told rM_read rM_st rM_undone rM_kept iM_undos iM_images rM_fresher iM_fresherSize iM_scale iM_night rM_heardRow rM_cutRow iM_breaths iM_cutMany iM_allBreaths rM_trial rM_words iM_fewestBreaths iM_orderMany iM_orderSum iM_leastOrder rM_often iM_setMany iM_someOf iM_allOf iM_allWeight iM_enoughWeight iM_worthSum iM_firstRest iM_leastDrawn), (arI rM_r kM_r 287 fM_r), (arI rM_told kM_told 90 fM_told), (arI rM_st kM_st 90 fM_st)] s.heap.size = A at hD hE ⊢
  have hA : ∀ q : Nat, s.heap.size ≤ q → A q := fun q h => by rw [← hAe]; exact Or.inr h
  have hS : va_S A s.heap s.heap [] := va_S.rf
  have hl := lv_entry ([.ref oM, .int p0]) (n := 3) (Nat.le_of_ble_eq_true rfl)
  rw [lg_entry_eq]
  generalize (lg_sl ([.ref oM, .int p0]) ++ List.replicate (3 - (lg_sl ([.ref oM, .int p0])).length) Slot.unset).toArray = ls at hl ⊢
  have hl : lv_has ls 3 [(0, .ref oM), (1, .int p0)] := hl
  have hG := PX7_throneAt_eq fM_r fM_told fM_st iM_scale p0
  have s_slips := r_R.slips
  have s_nodes := r_R.nodes
  have s_uns := r_R.uns
  refine lv_aload_n hx hb dX7_throneAt_0 rfl (lv_at hl 0 rfl) ?_
  refine lv_iload_n hx hb dX7_throneAt_1 rfl (lv_at hl 1 rfl) ?_
  refine va_put (D := (dC, dI)) (ci := 7) (v := .int p0) (ty := .int) (C := RX7) (T := TX7) (N := 48) hx hb hts inX7 tyX7 tyX7_ok nmX7 hown hK hP hD hS 0 rfl rfl 27 (by decide) (hts _ wd_164) (fun _ h9 => h9) rfl (by decide +kernel) rfl rfl (Nat.le_of_ble_eq_true rfl) dX7_throneAt_2 (fun H locs hP hD hS => ?_)
  obtain ⟨hP, hD⟩ := wl2 (ws' := [(oc7 oM iM_thrown rM_tape iM_taped iM_size iM_at iM_end iM_token iM_whole iM_nameSize iM_fault iM_place iM_trouble rM_letters iM_failed iM_hasCourt rM_r rM_fresh rM_told rM_read rM_st rM_undone rM_kept iM_undos iM_images rM_fresher iM_fresherSize iM_scale p0 rM_heardRow rM_cutRow iM_breaths iM_cutMany iM_allBreaths rM_trial rM_words iM_fewestBreaths iM_orderMany iM_orderSum iM_leastOrder rM_often iM_setMany iM_someOf iM_allOf iM_allWeight iM_enoughWeight iM_worthSum iM_firstRest iM_leastDrawn), (arI rM_r kM_r 287 fM_r), (arI rM_told kM_told 90 fM_told), (arI rM_st kM_st 90 fM_st)]) hP hD rfl
  refine lv_aload_n hx hb dX7_throneAt_5 rfl (lv_at hl 0 rfl) ?_
  refine lv_aload_n hx hb dX7_throneAt_6 rfl (lv_at hl 0 rfl) ?_
  refine va_get (D := (dC, dI)) (ci := 7) (v := .ref rM_st) (C := RX7) (T := TX7) (N := 48) hx hb hts inX7 hown hK hP 0 rfl rfl 19 (by decide) (hts _ wd_159) (fun _ h9 => h9) rfl dX7_throneAt_7 ?_
  have hFc := va_freeI hD hS hA
  refine va_calli (va_runV (As := [.ref rM_st]) (rest := []) ⟨hx, hb, hml, hown, hts⟩ (tX7_throneBy l dC dI _ oM iM_thrown rM_tape iM_taped iM_size iM_at iM_end iM_token iM_whole iM_nameSize iM_fault iM_place iM_trouble rM_letters iM_failed iM_hasCourt rM_r fM_r kM_r rM_fresh rM_told fM_told kM_told rM_read rM_st rM_undone rM_kept iM_undos iM_images rM_fresher iM_fresherSize iM_scale p0 rM_heardRow rM_cutRow iM_breaths iM_cutMany iM_allBreaths rM_trial rM_words iM_fewestBreaths iM_orderMany iM_orderSum iM_leastOrder rM_often iM_setMany iM_someOf iM_allOf iM_allWeight iM_enoughWeight iM_worthSum iM_firstRest iM_leastDrawn rM_st fM_st kM_st b_iM_taped b_iM_size b_iM_end b_iM_failed b_iM_hasCourt b_iM_undos b_iM_images b_iM_scale b_iM_breaths b_iM_cutMany (by assumption) (by assumption) (by assumption) (by assumption) ⟨hth.1, hth.2⟩) (cwV 1 hts (wd_V wd_979 wd_980 wd_981 wd_5 (wd_c wd_982)) rfl rfl rfl dv_yX7_throneBy_1 ⟨Nat.le_of_ble_eq_true rfl, Nat.le_of_ble_eq_true rfl⟩) ⟨Pw.fb, recvX7 hK hP (q0 := 0) rfl, fun U hU hW => Pw.to hP hD hK hE hS hFc hU hW⟩ rfl rfl hl.1 rfl (lv_room (Nat.le_of_ble_eq_true rfl)) dX7_throneAt_10 ⟨Nat.le_of_ble_eq_true rfl, Nat.le_of_ble_eq_true rfl⟩) hS (fun q _ h => hFc q h) hFc (fun r u t H locs ht hvm hw hB hz1 hk1 hS => ?_)
  have hru9 := hw.2
  have hw := hw.1
  obtain ⟨hP, hD⟩ := Bw.goA (ws' := [(oc7 oM iM_thrown rM_tape iM_taped iM_size iM_at iM_end iM_token iM_whole iM_nameSize iM_fault iM_place iM_trouble rM_letters iM_failed iM_hasCourt rM_r rM_fresh rM_told rM_read rM_st rM_undone rM_kept iM_undos iM_images rM_fresher iM_fresherSize iM_scale p0 rM_heardRow rM_cutRow iM_breaths iM_cutMany iM_allBreaths rM_trial rM_words iM_fewestBreaths iM_orderMany iM_orderSum iM_leastOrder rM_often iM_setMany iM_someOf iM_allOf iM_allWeight iM_enoughWeight iM_worthSum iM_firstRest iM_leastDrawn), (arI rM_r kM_r 287 fM_r), (arI rM_told kM_told 90 fM_told), (arI rM_st kM_st 90 fM_st)]) hB rfl ht hFc rfl
  clear hz1 hk1 hvm ht hB
  obtain ⟨x_2145, rfl⟩ : ∃ z, z = r := ⟨_, rfl⟩
  have hG := hG.trans (lt_eq hru9.symm)
  refine lv_istore_n (lv' := [(2, .int x_2145), (0, .ref oM), (1, .int p0)]) hx hb dX7_throneAt_13 rfl hl (by decide) rfl (fun ls hl => ?_)
  refine lv_aload_n hx hb dX7_throneAt_14 rfl (lv_at hl 1 rfl) ?_
  refine lv_iconst (v := (-1)) hx hb dX7_throneAt_15 (by decide) ?_
  refine va_put (D := (dC, dI)) (ci := 7) (v := .int (-1)) (ty := .int) (C := RX7) (T := TX7) (N := 48) hx hb hts inX7 tyX7 tyX7_ok nmX7 hown hK hP hD hS 0 rfl rfl 27 (by decide) (hts _ wd_164) (fun _ h9 => h9) rfl (by decide +kernel) rfl rfl (Nat.le_of_ble_eq_true rfl) dX7_throneAt_16 (fun H locs hP hD hS => ?_)
  obtain ⟨hP, hD⟩ := wl2 (ws' := [(oc7 oM iM_thrown rM_tape iM_taped iM_size iM_at iM_end iM_token iM_whole iM_nameSize iM_fault iM_place iM_trouble rM_letters iM_failed iM_hasCourt rM_r rM_fresh rM_told rM_read rM_st rM_undone rM_kept iM_undos iM_images rM_fresher iM_fresherSize iM_scale (-1) rM_heardRow rM_cutRow iM_breaths iM_cutMany iM_allBreaths rM_trial rM_words iM_fewestBreaths iM_orderMany iM_orderSum iM_leastOrder rM_often iM_setMany iM_someOf iM_allOf iM_allWeight iM_enoughWeight iM_worthSum iM_firstRest iM_leastDrawn), (arI rM_r kM_r 287 fM_r), (arI rM_told kM_told 90 fM_told), (arI rM_st kM_st 90 fM_st)]) hP hD rfl
  refine lv_iload_n hx hb dX7_throneAt_19 rfl (lv_at hl 0 rfl) ?_
  exact wq_i hx hb hr (cI x_2145) ⟨⟨trivial, trivial⟩, (cI_of x_2145)⟩ (fun t ht hW => ⟨(-1), (by decide), (cI_tup hG), Bw.to hP hD hK ht hW⟩) hS dX7_throneAt_20 hlocks
set_option maxHeartbeats 4000000 in
set_option maxRecDepth 100000 in
theorem tX7_night (l : Launch) (dC : Nat → ClassId) (dI : Nat → Nat → Nat) (sz : Nat) (oM : Nat) (iM_thrown : Int32) (rM_tape : Nat) (iM_taped : Int32) (iM_size : Int32) (iM_at : Int32) (iM_end : Int32) (iM_token : Int32) (iM_whole : Int32) (iM_nameSize : Int32) (iM_fault : Int32) (iM_place : Int32) (iM_trouble : Int32) (rM_letters : Nat) (iM_failed : Int32) (iM_hasCourt : Int32) (rM_r : Nat) (fM_r : Nat → Int32) (kM_r : ClassId) (rM_fresh : Nat) (rM_told : Nat) (fM_told : Nat → Int32) (kM_told : ClassId) (rM_read : Nat) (rM_st : Nat) (fM_st : Nat → Int32) (kM_st : ClassId) (rM_undone : Nat) (rM_kept : Nat) (iM_undos : Int32) (iM_images : Int32) (rM_fresher : Nat) (iM_fresherSize : Int32) (iM_scale : Int32) (iM_night : Int32) (rM_heardRow : Nat) (rM_cutRow : Nat) (iM_breaths : Int32) (iM_cutMany : Int32) (iM_allBreaths : Int32) (rM_trial : Nat) (rM_words : Nat) (iM_fewestBreaths : Int32) (iM_orderMany : Int32) (iM_orderSum : Int32) (iM_leastOrder : Int32) (rM_often : Nat) (iM_setMany : Int32) (iM_someOf : Int32) (iM_allOf : Int32) (iM_allWeight : Int64) (iM_enoughWeight : Int64) (iM_worthSum : Int64) (iM_firstRest : Int32) (iM_leastDrawn : Int32) (p0 : Int32) (p1 : Int32) (b_iM_taped : 0 ≤ iM_taped.toInt ∧ iM_taped.toInt ≤ 900) (b_iM_size : 0 ≤ iM_size.toInt ∧ iM_size.toInt ≤ 900) (b_iM_end : 0 ≤ iM_end.toInt ∧ iM_end.toInt ≤ 900) (b_iM_failed : 0 ≤ iM_failed.toInt ∧ iM_failed.toInt ≤ 1) (b_iM_hasCourt : 0 ≤ iM_hasCourt.toInt ∧ iM_hasCourt.toInt ≤ 1) (b_iM_undos : 0 ≤ iM_undos.toInt ∧ iM_undos.toInt ≤ 16) (b_iM_images : 0 ≤ iM_images.toInt ∧ iM_images.toInt ≤ 3) (b_iM_scale : 1 ≤ iM_scale.toInt ∧ iM_scale.toInt ≤ 1296) (b_iM_breaths : 0 ≤ iM_breaths.toInt ∧ iM_breaths.toInt ≤ 399) (b_iM_cutMany : 0 ≤ iM_cutMany.toInt ∧ iM_cutMany.toInt ≤ 399) (r_R : ROk fM_r) (r_C : iM_hasCourt.toInt ≤ 0 ∨ (1 ≤ (fM_r 1).toInt ∧ 0 ≤ (fM_r 6).toInt ∧ (fM_r 6).toInt < (fM_r 1).toInt)) (r_st : RowOk fM_r fM_st) (r_told : RowOk fM_r fM_told) (r_wst : WorOk fM_st) (hnt : iM_night.toInt = -1) : Met l yX7_night (Cond.code yX7_night cX7_night 4 (some .long) :: wG) ({ frames := 23, cells := 0, slots := 0, locals := 607 }) (va_Pc [.ref oM, .int p0, .int p1] (Pw dC dI sz [(oc7 oM iM_thrown rM_tape iM_taped iM_size iM_at iM_end iM_token iM_whole iM_nameSize iM_fault iM_place iM_trouble rM_letters iM_failed iM_hasCourt rM_r rM_fresh rM_told rM_read rM_st rM_undone rM_kept iM_undos iM_images rM_fresher iM_fresherSize iM_scale iM_night rM_heardRow rM_cutRow iM_breaths iM_cutMany iM_allBreaths rM_trial rM_words iM_fewestBreaths iM_orderMany iM_orderSum iM_leastOrder rM_often iM_setMany iM_someOf iM_allOf iM_allWeight iM_enoughWeight iM_worthSum iM_firstRest iM_leastDrawn), (arI rM_r kM_r 287 fM_r), (arI rM_told kM_told 90 fM_told), (arI rM_st kM_st 90 fM_st)] [(kM_r, .int), (kM_told, .int), (kM_st, .int)])) (va_Ql (fun (r : Int64) (u : Nat) => (True ∧ True) ∧ r = Int64.ofNat u) (fun (u : Nat) (t : State) => ∃ (niM_thrown : Int32) (niM_trouble : Int32) (niM_night : Int32), (niM_night.toInt = -1) ∧ (PX7_night iM_hasCourt fM_r fM_told fM_st iM_scale iM_night p0 p1 = (Int64.ofNat u, niM_thrown, niM_trouble, niM_night)) ∧ Bw dC dI (va_A [(oc7 oM iM_thrown rM_tape iM_taped iM_size iM_at iM_end iM_token iM_whole iM_nameSize iM_fault iM_place iM_trouble rM_letters iM_failed iM_hasCourt rM_r rM_fresh rM_told rM_read rM_st rM_undone rM_kept iM_undos iM_images rM_fresher iM_fresherSize iM_scale iM_night rM_heardRow rM_cutRow iM_breaths iM_cutMany iM_allBreaths rM_trial rM_words iM_fewestBreaths iM_orderMany iM_orderSum iM_leastOrder rM_often iM_setMany iM_someOf iM_allOf iM_allWeight iM_enoughWeight iM_worthSum iM_firstRest iM_leastDrawn), (arI rM_r kM_r 287 fM_r), (arI rM_told kM_told 90 fM_told), (arI rM_st kM_st 90 fM_st)] sz) [(oc7 oM niM_thrown rM_tape iM_taped iM_size iM_at iM_end iM_token iM_whole iM_nameSize iM_fault iM_place niM_trouble rM_letters iM_failed iM_hasCourt rM_r rM_fresh rM_told rM_read rM_st rM_undone rM_kept iM_undos iM_images rM_fresher iM_fresherSize iM_scale niM_night rM_heardRow rM_cutRow iM_breaths iM_cutMany iM_allBreaths rM_trial rM_words iM_fewestBreaths iM_orderMany iM_orderSum iM_leastOrder rM_often iM_setMany iM_someOf iM_allOf iM_allWeight iM_enoughWeight iM_worthSum iM_firstRest iM_leastDrawn), (arI rM_r kM_r 287 fM_r), (arI rM_told kM_told 90 fM_told), (arI rM_st kM_st 90 fM_st)] [(kM_r, .int), (kM_told, .int), (kM_st, .int)] t) (va_A [(oc7 oM iM_thrown rM_tape iM_taped iM_size iM_at iM_end iM_token iM_whole iM_nameSize iM_fault iM_place iM_trouble rM_letters iM_failed iM_hasCourt rM_r rM_fresh rM_told rM_read rM_st rM_undone rM_kept iM_undos iM_images rM_fresher iM_fresherSize iM_scale iM_night rM_heardRow rM_cutRow iM_breaths iM_cutMany iM_allBreaths rM_trial rM_words iM_fewestBreaths iM_orderMany iM_orderSum iM_leastOrder rM_often iM_setMany iM_someOf iM_allOf iM_allWeight iM_enoughWeight iM_worthSum iM_firstRest iM_leastDrawn), (arI rM_r kM_r 287 fM_r), (arI rM_told kM_told 90 fM_told), (arI rM_st kM_st 90 fM_st)] sz)) 0 0 (va_A [(oc7 oM iM_thrown rM_tape iM_taped iM_size iM_at iM_end iM_token iM_whole iM_nameSize iM_fault iM_place iM_trouble rM_letters iM_failed iM_hasCourt rM_r rM_fresh rM_told rM_read rM_st rM_undone rM_kept iM_undos iM_images rM_fresher iM_fresherSize iM_scale iM_night rM_heardRow rM_cutRow iM_breaths iM_cutMany iM_allBreaths rM_trial rM_words iM_fewestBreaths iM_orderMany iM_orderSum iM_leastOrder rM_often iM_setMany iM_someOf iM_allOf iM_allWeight iM_enoughWeight iM_worthSum iM_firstRest iM_leastDrawn), (arI rM_r kM_r 287 fM_r), (arI rM_told kM_told 90 fM_told), (arI rM_st kM_st 90 fM_st)] sz) := by
  refine Met.ofW (cc := cX7_night) (maxL := 4) (ret := (some .long)) pnX7 rfl ?_
  intro p e s m args below meth c s₁ B hml hv
  obtain ⟨rfl, hsz, hP, hK, hD0, hE⟩ := hv
  have hx := B.exec
  have hb := B.bytes
  have hr := B.returns
  have hts : ∀ w ∈ wG, w.before ([.ref oM, .int p0, .int p1] : List Value).toArray s = true := fun w h => atoms_spec (ws := Cond.code yX7_night cX7_night 4 (some .long) :: wG) B.pre w (List.mem_cons_of_mem _ h)
  have hown : s.vm.findClass RX7 = some m.cls := own_of B.named rfl
  have hlocks := B.notSynchronized
  subst hsz
  have hD := hD0.self (sz := s.heap.size)
  generalize hAe : va_A [(oc7 oM iM_thrown rM_tape iM_taped iM_size iM_at iM_end iM_token iM_whole iM_nameSize iM_fault iM_place iM_trouble rM_letters iM_failed iM_hasCourt rM_r rM_fresh rM_told rM_read rM_st rM_undone rM_kept iM_undos iM_images rM_fresher iM_fresherSize iM_scale iM_night rM_heardRow rM_cutRow iM_breaths iM_cutMany iM_allBreaths rM_trial rM_words iM_fewestBreaths iM_orderMany iM_orderSum iM_leastOrder rM_often iM_setMany iM_someOf iM_allOf iM_allWeight iM_enoughWeight iM_worthSum iM_firstRest iM_leastDrawn), (arI rM_r kM_r 287 fM_r), (arI rM_told kM_told 90 fM_told), (arI rM_st kM_st 90 fM_st)] s.heap.size = A at hD hE ⊢
  have hA : ∀ q : Nat, s.heap.size ≤ q → A q := fun q h => by rw [← hAe]; exact Or.inr h
  have hS : va_S A s.heap s.heap [] := va_S.rf
  have hl := lv_entry ([.ref oM, .int p0, .int p1]) (n := 4) (Nat.le_of_ble_eq_true rfl)
  rw [lg_entry_eq]
  generalize (lg_sl ([.ref oM, .int p0, .int p1]) ++ List.replicate (4 - (lg_sl ([.ref oM, .int p0, .int p1])).length) Slot.unset).toArray = ls at hl ⊢
  have hl : lv_has ls 4 [(0, .ref oM), (1, .int p0), (2, .int p1)] := hl
  have hG := PX7_night_eq iM_hasCourt fM_r fM_told fM_st iM_scale iM_night p0 p1
  have s_slips := r_R.slips
  have s_nodes := r_R.nodes
  have s_uns := r_R.uns
  refine lv_aload_n hx hb dX7_night_0 rfl (lv_at hl 0 rfl) ?_
  have hMs := ml_of hD [true, false, false, false] (wc := [(oc7 oM iM_thrown rM_tape iM_taped iM_size iM_at iM_end iM_token iM_whole iM_nameSize iM_fault iM_place iM_trouble rM_letters iM_failed iM_hasCourt rM_r rM_fresh rM_told rM_read rM_st rM_undone rM_kept iM_undos iM_images rM_fresher iM_fresherSize iM_scale iM_night rM_heardRow rM_cutRow iM_breaths iM_cutMany iM_allBreaths rM_trial rM_words iM_fewestBreaths iM_orderMany iM_orderSum iM_leastOrder rM_often iM_setMany iM_someOf iM_allOf iM_allWeight iM_enoughWeight iM_worthSum iM_firstRest iM_leastDrawn)]) rfl
  have hFc := va_freeM hD hS hA _ hMs
  refine va_callv (va_runV (As := []) (rest := []) ⟨hx, hb, hml, hown, hts⟩ (tX7_good l dC dI _ oM iM_thrown rM_tape iM_taped iM_size iM_at iM_end iM_token iM_whole iM_nameSize iM_fault iM_place iM_trouble rM_letters iM_failed iM_hasCourt rM_r rM_fresh rM_told rM_read rM_st rM_undone rM_kept iM_undos iM_images rM_fresher iM_fresherSize iM_scale iM_night rM_heardRow rM_cutRow iM_breaths iM_cutMany iM_allBreaths rM_trial rM_words iM_fewestBreaths iM_orderMany iM_orderSum iM_leastOrder rM_often iM_setMany iM_someOf iM_allOf iM_allWeight iM_enoughWeight iM_worthSum iM_firstRest iM_leastDrawn b_iM_taped b_iM_size b_iM_end b_iM_failed b_iM_hasCourt b_iM_undos b_iM_images b_iM_scale b_iM_breaths b_iM_cutMany) (cwV 0 hts (wd_V wd_388 wd_389 wd_390 wd_5 (wd_c wd_391)) rfl rfl rfl dv_yX7_good_0 ⟨Nat.le_of_ble_eq_true rfl, Nat.le_of_ble_eq_true rfl⟩) ⟨Pw.fb, recvX7 hK hP (q0 := 0) rfl, fun U hU hW => Pw.to (hP.ms _ hMs) (hD.ms _ hMs) (hK.ms [false, false, false] rfl) hE hS hFc hU hW⟩ rfl rfl hl.1 rfl (lv_room (Nat.le_of_ble_eq_true rfl)) dX7_night_1 ⟨Nat.le_of_ble_eq_true rfl, Nat.le_of_ble_eq_true rfl⟩) hS (fun q _ h => hFc q h) hFc (fun u t H locs ht hvm hw hB hz1 hk1 hS => ?_)
  refine ex_2_3 hB (fun x_2164 x_2165 b_x_2164 b_x_2165 e_x_2164_0 hB => ?_)
  obtain ⟨hP, hD⟩ := Bw.goN (ws' := [(oc7 oM x_2164 rM_tape iM_taped iM_size iM_at iM_end iM_token iM_whole iM_nameSize iM_fault iM_place x_2165 rM_letters iM_failed iM_hasCourt rM_r rM_fresh rM_told rM_read rM_st rM_undone rM_kept iM_undos iM_images rM_fresher iM_fresherSize iM_scale iM_night rM_heardRow rM_cutRow iM_breaths iM_cutMany iM_allBreaths rM_trial rM_words iM_fewestBreaths iM_orderMany iM_orderSum iM_leastOrder rM_often iM_setMany iM_someOf iM_allOf iM_allWeight iM_enoughWeight iM_worthSum iM_firstRest iM_leastDrawn), (arI rM_r kM_r 287 fM_r), (arI rM_told kM_told 90 fM_told), (arI rM_st kM_st 90 fM_st)]) hB rfl ht hP hD _ hMs hk1 hFc rfl
  clear hz1 hk1 hvm ht hB hMs
  have hG := hG.trans (un2_eq e_x_2164_0)
  refine lv_aload_n hx hb dX7_night_4 rfl (lv_at hl 0 rfl) ?_
  refine lv_iload_n hx hb dX7_night_5 rfl (lv_at hl 1 rfl) ?_
  refine lv_iconst (v := 0) hx hb dX7_night_6 (by decide) ?_
  refine lv_bipush (v := 9) hx hb dX7_night_7 (by decide) ?_
  have hFc : ∀ q, va_A [] _ q → A q := fun q h => hA q (Nat.le_trans hS.1 (va_nilA h))
  refine va_calli (va_runS (As := [.int p0, .int 0, .int 9]) (rest := [.ref oM]) ⟨hx, hb, hml, hown, hts⟩ (tX7_in l dC dI _ p0 0 9 ) (va_cwS 3 hts (wd_S wd_393 wd_394 wd_5 (wd_c wd_395)) rfl rfl rfl ds_yX7_in_3 ⟨Nat.le_of_ble_eq_true rfl, Nat.le_of_ble_eq_true rfl⟩) ⟨Pw.fb, fun U hU hW => Pn.to hK hE hS hA hU hW⟩ rfl rfl hl.1 rfl (lv_room (Nat.le_of_ble_eq_true rfl)) dX7_night_9 ⟨Nat.le_of_ble_eq_true rfl, Nat.le_of_ble_eq_true rfl⟩) hS (fun q _ h => hFc q h) hFc (fun r u t H locs ht hvm hw hB hz1 hk1 hS => ?_)
  obtain ⟨hP, hD, hK⟩ := Bw.same ht hvm hP hD hK hk1 hFc
  clear hz1 hk1 hvm ht hB
  have hq9 := hw.2
  have hw := hw.1
  obtain ⟨x_2166, rfl⟩ : ∃ z, z = r := ⟨_, rfl⟩
  have hq_x_2166 := hq9
  have hG := hG.trans (lt_eq hq_x_2166.symm)
  have bx_2166 := hw.1
  have dx_2166 := bz_tb bx_2166
  have px_2166 := hw.2
  have hMs := ml_of hD [true, true, false, false] (wc := [(oc7 oM x_2164 rM_tape iM_taped iM_size iM_at iM_end iM_token iM_whole iM_nameSize iM_fault iM_place x_2165 rM_letters iM_failed iM_hasCourt rM_r rM_fresh rM_told rM_read rM_st rM_undone rM_kept iM_undos iM_images rM_fresher iM_fresherSize iM_scale iM_night rM_heardRow rM_cutRow iM_breaths iM_cutMany iM_allBreaths rM_trial rM_words iM_fewestBreaths iM_orderMany iM_orderSum iM_leastOrder rM_often iM_setMany iM_someOf iM_allOf iM_allWeight iM_enoughWeight iM_worthSum iM_firstRest iM_leastDrawn), (arI rM_r kM_r 287 fM_r)]) rfl
  have hFc := va_freeM hD hS hA _ hMs
  refine va_calli (va_runV (As := [.int x_2166]) (rest := []) ⟨hx, hb, hml, hown, hts⟩ (tX7_why l dC dI _ oM x_2164 rM_tape iM_taped iM_size iM_at iM_end iM_token iM_whole iM_nameSize iM_fault iM_place x_2165 rM_letters iM_failed iM_hasCourt rM_r fM_r kM_r rM_fresh rM_told rM_read rM_st rM_undone rM_kept iM_undos iM_images rM_fresher iM_fresherSize iM_scale iM_night rM_heardRow rM_cutRow iM_breaths iM_cutMany iM_allBreaths rM_trial rM_words iM_fewestBreaths iM_orderMany iM_orderSum iM_leastOrder rM_often iM_setMany iM_someOf iM_allOf iM_allWeight iM_enoughWeight iM_worthSum iM_firstRest iM_leastDrawn x_2166 b_iM_taped b_iM_size b_iM_end b_iM_failed b_iM_hasCourt b_iM_undos b_iM_images b_iM_scale b_iM_breaths b_iM_cutMany (by assumption) (by assumption) ⟨dx_2166.1, dx_2166.2⟩) (cwV 1 hts (wd_V wd_882 wd_883 wd_884 wd_5 (wd_c wd_885)) rfl rfl rfl dv_yX7_why_1 ⟨Nat.le_of_ble_eq_true rfl, Nat.le_of_ble_eq_true rfl⟩) ⟨Pw.fb, recvX7 hK hP (q0 := 0) rfl, fun U hU hW => Pw.to (hP.ms _ hMs) (hD.ms _ hMs) (hK.ms [true, false, false] rfl) hE hS hFc hU hW⟩ rfl rfl hl.1 rfl (lv_room (Nat.le_of_ble_eq_true rfl)) dX7_night_12 ⟨Nat.le_of_ble_eq_true rfl, Nat.le_of_ble_eq_true rfl⟩) hS (fun q _ h => hFc q h) hFc (fun r u t H locs ht hvm hw hB hz1 hk1 hS => ?_)
  have hru9 := hw.2
  have hw := hw.1
  obtain ⟨hP, hD⟩ := Bw.goN (ws' := [(oc7 oM x_2164 rM_tape iM_taped iM_size iM_at iM_end iM_token iM_whole iM_nameSize iM_fault iM_place x_2165 rM_letters iM_failed iM_hasCourt rM_r rM_fresh rM_told rM_read rM_st rM_undone rM_kept iM_undos iM_images rM_fresher iM_fresherSize iM_scale iM_night rM_heardRow rM_cutRow iM_breaths iM_cutMany iM_allBreaths rM_trial rM_words iM_fewestBreaths iM_orderMany iM_orderSum iM_leastOrder rM_often iM_setMany iM_someOf iM_allOf iM_allWeight iM_enoughWeight iM_worthSum iM_firstRest iM_leastDrawn), (arI rM_r kM_r 287 fM_r), (arI rM_told kM_told 90 fM_told), (arI rM_st kM_st 90 fM_st)]) hB rfl ht hP hD _ hMs hk1 hFc rfl
  clear hz1 hk1 hvm ht hB hMs
  rcases hw.2 with ⟨rfl, hc_2167⟩ | ⟨rfl, hc_2167⟩ | ⟨rfl, hc_2167⟩
  · skip
    have hG := hG.trans (lt_eq hru9.symm)
    have hG := hG.trans (if_pos rfl)
    refine lv_istore_n (lv' := [(3, .int 0), (0, .ref oM), (1, .int p0), (2, .int p1)]) hx hb dX7_night_15 rfl hl (by decide) rfl (fun ls hl => ?_)
    refine lv_iload_n hx hb dX7_night_16 rfl (lv_at hl 0 rfl) ?_
    refine lv_if_eq (tgt := 29) hx hb dX7_night_17 (by decide) (fun _ => ?_) (fun c => absurd c (by decide))
    refine lv_aload_n hx hb dX7_night_29 rfl (lv_at hl 1 rfl) ?_
    refine lv_iload_n hx hb dX7_night_30 rfl (lv_at hl 2 rfl) ?_
    have hFc := va_freeI hD hS hA
    refine va_calli (va_runV (As := [.int p0]) (rest := []) ⟨hx, hb, hml, hown, hts⟩ (tX7_throneAt l dC dI _ oM x_2164 rM_tape iM_taped iM_size iM_at iM_end iM_token iM_whole iM_nameSize iM_fault iM_place x_2165 rM_letters iM_failed iM_hasCourt rM_r fM_r kM_r rM_fresh rM_told fM_told kM_told rM_read rM_st fM_st kM_st rM_undone rM_kept iM_undos iM_images rM_fresher iM_fresherSize iM_scale iM_night rM_heardRow rM_cutRow iM_breaths iM_cutMany iM_allBreaths rM_trial rM_words iM_fewestBreaths iM_orderMany iM_orderSum iM_leastOrder rM_often iM_setMany iM_someOf iM_allOf iM_allWeight iM_enoughWeight iM_worthSum iM_firstRest iM_leastDrawn p0 b_iM_taped b_iM_size b_iM_end b_iM_failed b_iM_hasCourt b_iM_undos b_iM_images b_iM_scale b_iM_breaths b_iM_cutMany (by assumption) (by assumption) (by assumption) (by assumption) (by assumption) ⟨hc_2167.2.1, hc_2167.2.2⟩) (cwV 1 hts (wd_V wd_1100 wd_1101 wd_1102 wd_5 (wd_c wd_1103)) rfl rfl rfl dv_yX7_throneAt_1 ⟨Nat.le_of_ble_eq_true rfl, Nat.le_of_ble_eq_true rfl⟩) ⟨Pw.fb, recvX7 hK hP (q0 := 0) rfl, fun U hU hW => Pw.to hP hD hK hE hS hFc hU hW⟩ rfl rfl hl.1 rfl (lv_room (Nat.le_of_ble_eq_true rfl)) dX7_night_31 ⟨Nat.le_of_ble_eq_true rfl, Nat.le_of_ble_eq_true rfl⟩) hS (fun q _ h => hFc q h) hFc (fun r u t H locs ht hvm hw hB hz1 hk1 hS => ?_)
    have hru9 := hw.2
    have hw := hw.1
    refine ex_1_2 hB (fun x_2170 b_x_2170 e_x_2170_0 hB => ?_)
    obtain ⟨hP, hD⟩ := Bw.goA (ws' := [(oc7 oM x_2164 rM_tape iM_taped iM_size iM_at iM_end iM_token iM_whole iM_nameSize iM_fault iM_place x_2165 rM_letters iM_failed iM_hasCourt rM_r rM_fresh rM_told rM_read rM_st rM_undone rM_kept iM_undos iM_images rM_fresher iM_fresherSize iM_scale x_2170 rM_heardRow rM_cutRow iM_breaths iM_cutMany iM_allBreaths rM_trial rM_words iM_fewestBreaths iM_orderMany iM_orderSum iM_leastOrder rM_often iM_setMany iM_someOf iM_allOf iM_allWeight iM_enoughWeight iM_worthSum iM_firstRest iM_leastDrawn), (arI rM_r kM_r 287 fM_r), (arI rM_told kM_told 90 fM_told), (arI rM_st kM_st 90 fM_st)]) hB rfl ht hFc rfl
    clear hz1 hk1 hvm ht hB
    rw [← hru9] at e_x_2170_0
    obtain ⟨x_2171, rfl⟩ : ∃ z, z = r := ⟨_, rfl⟩
    have hG := hG.trans (un2_eq e_x_2170_0)
    obtain ⟨y_2172, ey_2172⟩ : ∃ z : Int64, z = (x_2171 : Int32).toInt64 := ⟨_, rfl⟩
    have hG := hG.trans (lt_eq ey_2172)
    refine lv_i2l (v := y_2172) hx hb dX7_night_34 ey_2172.symm ?_
    refine lv_aload_n hx hb dX7_night_35 rfl (lv_at hl 1 rfl) ?_
    refine va_get (D := (dC, dI)) (ci := 7) (v := .int iM_scale) (C := RX7) (T := TX7) (N := 48) hx hb hts inX7 hown hK hP 0 rfl rfl 26 (by decide) (hts _ wd_163) (fun _ h9 => h9) rfl dX7_night_36 ?_
    obtain ⟨y_2173, ey_2173⟩ : ∃ z : Int64, z = (iM_scale : Int32).toInt64 := ⟨_, rfl⟩
    have hG := hG.trans (lt_eq ey_2173)
    refine lv_i2l (v := y_2173) hx hb dX7_night_39 ey_2173.symm ?_
    have nz_y_2173 := i2l_nz ey_2173 (by omega)
    refine lv_iload_n hx hb dX7_night_40 rfl (lv_at hl 3 rfl) ?_
    have hFc : ∀ q, va_A [] _ q → A q := fun q h => hA q (Nat.le_trans hS.1 (va_nilA h))
    refine va_calll (va_runS (As := [.long y_2172, .long y_2173, .int p1]) (rest := []) ⟨hx, hb, hml, hown, hts⟩ (tX7_lowest l dC dI _ y_2172 y_2173 p1 nz_y_2173) (va_cwS 3 hts (wd_S wd_655 wd_656 wd_5 (wd_c wd_657)) rfl rfl rfl ds_yX7_lowest_3 ⟨Nat.le_of_ble_eq_true rfl, Nat.le_of_ble_eq_true rfl⟩) ⟨Pw.fb, fun U hU hW => Pn.to hK hE hS hA hU hW⟩ rfl rfl hl.1 rfl (lv_room (Nat.le_of_ble_eq_true rfl)) dX7_night_41 ⟨Nat.le_of_ble_eq_true rfl, Nat.le_of_ble_eq_true rfl⟩) hS (fun q _ h => hFc q h) hFc (fun r u t H locs ht hvm hw hB hz1 hk1 hS => ?_)
    obtain ⟨hP, hD, hK⟩ := Bw.same ht hvm hP hD hK hk1 hFc
    clear hz1 hk1 hvm ht hB
    have hq9 := hw.2
    have hw := hw.1
    obtain ⟨y_2174, rfl⟩ : ∃ z, z = r := ⟨_, rfl⟩
    have hq_y_2174 := hq9
    have hG := hG.trans (lt_eq hq_y_2174.symm)
    exact wq_l hx hb hr (cL y_2174) ⟨⟨trivial, trivial⟩, (cL_of y_2174)⟩ (fun t ht hW => ⟨x_2164, x_2165, x_2170, (om_ccbdd137 b_x_2170.2 b_x_2170.1), (cL_tup hG), Bw.to hP hD hK ht hW⟩) hS dX7_night_44 hlocks
  · skip
    have hG := hG.trans (lt_eq hru9.symm)
    have hG := hG.trans (if_neg (by decide))
    have hG := hG.trans (if_pos rfl)
    refine lv_istore_n (lv' := [(3, .int 1), (0, .ref oM), (1, .int p0), (2, .int p1)]) hx hb dX7_night_15 rfl hl (by decide) rfl (fun ls hl => ?_)
    refine lv_iload_n hx hb dX7_night_16 rfl (lv_at hl 0 rfl) ?_
    refine lv_if_eq (tgt := 29) hx hb dX7_night_17 (by decide) (fun c => absurd c (by decide)) (fun _ => ?_)
    refine lv_aload_n hx hb dX7_night_20 rfl (lv_at hl 1 rfl) ?_
    refine lv_iload_n hx hb dX7_night_21 rfl (lv_at hl 0 rfl) ?_
    have hMs := ml_of hD [true, false, false, false] (wc := [(oc7 oM x_2164 rM_tape iM_taped iM_size iM_at iM_end iM_token iM_whole iM_nameSize iM_fault iM_place x_2165 rM_letters iM_failed iM_hasCourt rM_r rM_fresh rM_told rM_read rM_st rM_undone rM_kept iM_undos iM_images rM_fresher iM_fresherSize iM_scale iM_night rM_heardRow rM_cutRow iM_breaths iM_cutMany iM_allBreaths rM_trial rM_words iM_fewestBreaths iM_orderMany iM_orderSum iM_leastOrder rM_often iM_setMany iM_someOf iM_allOf iM_allWeight iM_enoughWeight iM_worthSum iM_firstRest iM_leastDrawn)]) rfl
    have hFc := va_freeM hD hS hA _ hMs
    refine va_calli (va_runV (As := [.int 1]) (rest := []) ⟨hx, hb, hml, hown, hts⟩ (tX7_no l dC dI _ oM x_2164 rM_tape iM_taped iM_size iM_at iM_end iM_token iM_whole iM_nameSize iM_fault iM_place x_2165 rM_letters iM_failed iM_hasCourt rM_r rM_fresh rM_told rM_read rM_st rM_undone rM_kept iM_undos iM_images rM_fresher iM_fresherSize iM_scale iM_night rM_heardRow rM_cutRow iM_breaths iM_cutMany iM_allBreaths rM_trial rM_words iM_fewestBreaths iM_orderMany iM_orderSum iM_leastOrder rM_often iM_setMany iM_someOf iM_allOf iM_allWeight iM_enoughWeight iM_worthSum iM_firstRest iM_leastDrawn 1 b_iM_taped b_iM_size b_iM_end b_iM_failed b_iM_hasCourt b_iM_undos b_iM_images b_iM_scale b_iM_breaths b_iM_cutMany) (cwV 1 hts (wd_V wd_396 wd_397 wd_398 wd_5 (wd_c wd_399)) rfl rfl rfl dv_yX7_no_1 ⟨Nat.le_of_ble_eq_true rfl, Nat.le_of_ble_eq_true rfl⟩) ⟨Pw.fb, recvX7 hK hP (q0 := 0) rfl, fun U hU hW => Pw.to (hP.ms _ hMs) (hD.ms _ hMs) (hK.ms [false, false, false] rfl) hE hS hFc hU hW⟩ rfl rfl hl.1 rfl (lv_room (Nat.le_of_ble_eq_true rfl)) dX7_night_22 ⟨Nat.le_of_ble_eq_true rfl, Nat.le_of_ble_eq_true rfl⟩) hS (fun q _ h => hFc q h) hFc (fun r u t H locs ht hvm hw hB hz1 hk1 hS => ?_)
    have hru9 := hw.2
    have hw := hw.1
    refine ex_1_1 hB (fun x_2176 e_x_2176_0 hB => ?_)
    obtain ⟨hP, hD⟩ := Bw.goN (ws' := [(oc7 oM x_2164 rM_tape iM_taped iM_size iM_at iM_end iM_token iM_whole iM_nameSize iM_fault iM_place x_2176 rM_letters iM_failed iM_hasCourt rM_r rM_fresh rM_told rM_read rM_st rM_undone rM_kept iM_undos iM_images rM_fresher iM_fresherSize iM_scale iM_night rM_heardRow rM_cutRow iM_breaths iM_cutMany iM_allBreaths rM_trial rM_words iM_fewestBreaths iM_orderMany iM_orderSum iM_leastOrder rM_often iM_setMany iM_someOf iM_allOf iM_allWeight iM_enoughWeight iM_worthSum iM_firstRest iM_leastDrawn), (arI rM_r kM_r 287 fM_r), (arI rM_told kM_told 90 fM_told), (arI rM_st kM_st 90 fM_st)]) hB rfl ht hP hD _ hMs hk1 hFc rfl
    clear hz1 hk1 hvm ht hB hMs
    rw [← hru9] at e_x_2176_0
    obtain ⟨x_2177, rfl⟩ : ∃ z, z = r := ⟨_, rfl⟩
    have hG := hG.trans (un2_eq e_x_2176_0)
    obtain ⟨y_2178, ey_2178⟩ : ∃ z : Int64, z = (x_2177 : Int32).toInt64 := ⟨_, rfl⟩
    have hG := hG.trans (lt_eq ey_2178)
    refine lv_i2l (v := y_2178) hx hb dX7_night_25 ey_2178.symm ?_
    refine lv_goto (tgt := 44) hx hb dX7_night_26 (by decide) ?_
    exact wq_l hx hb hr (cL y_2178) ⟨⟨trivial, trivial⟩, (cL_of y_2178)⟩ (fun t ht hW => ⟨x_2164, x_2176, iM_night, hnt, (cL_tup hG), Bw.to hP hD hK ht hW⟩) hS dX7_night_44 hlocks
  · skip
    have hG := hG.trans (lt_eq hru9.symm)
    have hG := hG.trans (if_neg (by decide))
    have hG := hG.trans (if_neg (by decide))
    refine lv_istore_n (lv' := [(3, .int 2), (0, .ref oM), (1, .int p0), (2, .int p1)]) hx hb dX7_night_15 rfl hl (by decide) rfl (fun ls hl => ?_)
    refine lv_iload_n hx hb dX7_night_16 rfl (lv_at hl 0 rfl) ?_
    refine lv_if_eq (tgt := 29) hx hb dX7_night_17 (by decide) (fun c => absurd c (by decide)) (fun _ => ?_)
    refine lv_aload_n hx hb dX7_night_20 rfl (lv_at hl 1 rfl) ?_
    refine lv_iload_n hx hb dX7_night_21 rfl (lv_at hl 0 rfl) ?_
    have hMs := ml_of hD [true, false, false, false] (wc := [(oc7 oM x_2164 rM_tape iM_taped iM_size iM_at iM_end iM_token iM_whole iM_nameSize iM_fault iM_place x_2165 rM_letters iM_failed iM_hasCourt rM_r rM_fresh rM_told rM_read rM_st rM_undone rM_kept iM_undos iM_images rM_fresher iM_fresherSize iM_scale iM_night rM_heardRow rM_cutRow iM_breaths iM_cutMany iM_allBreaths rM_trial rM_words iM_fewestBreaths iM_orderMany iM_orderSum iM_leastOrder rM_often iM_setMany iM_someOf iM_allOf iM_allWeight iM_enoughWeight iM_worthSum iM_firstRest iM_leastDrawn)]) rfl
    have hFc := va_freeM hD hS hA _ hMs
    refine va_calli (va_runV (As := [.int 2]) (rest := []) ⟨hx, hb, hml, hown, hts⟩ (tX7_no l dC dI _ oM x_2164 rM_tape iM_taped iM_size iM_at iM_end iM_token iM_whole iM_nameSize iM_fault iM_place x_2165 rM_letters iM_failed iM_hasCourt rM_r rM_fresh rM_told rM_read rM_st rM_undone rM_kept iM_undos iM_images rM_fresher iM_fresherSize iM_scale iM_night rM_heardRow rM_cutRow iM_breaths iM_cutMany iM_allBreaths rM_trial rM_words iM_fewestBreaths iM_orderMany iM_orderSum iM_leastOrder rM_often iM_setMany iM_someOf iM_allOf iM_allWeight iM_enoughWeight iM_worthSum iM_firstRest iM_leastDrawn 2 b_iM_taped b_iM_size b_iM_end b_iM_failed b_iM_hasCourt b_iM_undos b_iM_images b_iM_scale b_iM_breaths b_iM_cutMany) (cwV 1 hts (wd_V wd_396 wd_397 wd_398 wd_5 (wd_c wd_399)) rfl rfl rfl dv_yX7_no_1 ⟨Nat.le_of_ble_eq_true rfl, Nat.le_of_ble_eq_true rfl⟩) ⟨Pw.fb, recvX7 hK hP (q0 := 0) rfl, fun U hU hW => Pw.to (hP.ms _ hMs) (hD.ms _ hMs) (hK.ms [false, false, false] rfl) hE hS hFc hU hW⟩ rfl rfl hl.1 rfl (lv_room (Nat.le_of_ble_eq_true rfl)) dX7_night_22 ⟨Nat.le_of_ble_eq_true rfl, Nat.le_of_ble_eq_true rfl⟩) hS (fun q _ h => hFc q h) hFc (fun r u t H locs ht hvm hw hB hz1 hk1 hS => ?_)
    have hru9 := hw.2
    have hw := hw.1
    refine ex_1_1 hB (fun x_2180 e_x_2180_0 hB => ?_)
    obtain ⟨hP, hD⟩ := Bw.goN (ws' := [(oc7 oM x_2164 rM_tape iM_taped iM_size iM_at iM_end iM_token iM_whole iM_nameSize iM_fault iM_place x_2180 rM_letters iM_failed iM_hasCourt rM_r rM_fresh rM_told rM_read rM_st rM_undone rM_kept iM_undos iM_images rM_fresher iM_fresherSize iM_scale iM_night rM_heardRow rM_cutRow iM_breaths iM_cutMany iM_allBreaths rM_trial rM_words iM_fewestBreaths iM_orderMany iM_orderSum iM_leastOrder rM_often iM_setMany iM_someOf iM_allOf iM_allWeight iM_enoughWeight iM_worthSum iM_firstRest iM_leastDrawn), (arI rM_r kM_r 287 fM_r), (arI rM_told kM_told 90 fM_told), (arI rM_st kM_st 90 fM_st)]) hB rfl ht hP hD _ hMs hk1 hFc rfl
    clear hz1 hk1 hvm ht hB hMs
    rw [← hru9] at e_x_2180_0
    obtain ⟨x_2181, rfl⟩ : ∃ z, z = r := ⟨_, rfl⟩
    have hG := hG.trans (un2_eq e_x_2180_0)
    obtain ⟨y_2182, ey_2182⟩ : ∃ z : Int64, z = (x_2181 : Int32).toInt64 := ⟨_, rfl⟩
    have hG := hG.trans (lt_eq ey_2182)
    refine lv_i2l (v := y_2182) hx hb dX7_night_25 ey_2182.symm ?_
    refine lv_goto (tgt := 44) hx hb dX7_night_26 (by decide) ?_
    exact wq_l hx hb hr (cL y_2182) ⟨⟨trivial, trivial⟩, (cL_of y_2182)⟩ (fun t ht hW => ⟨x_2164, x_2180, iM_night, hnt, (cL_tup hG), Bw.to hP hD hK ht hW⟩) hS dX7_night_44 hlocks
set_option maxHeartbeats 4000000 in
set_option maxRecDepth 100000 in
theorem tX7_settles (l : Launch) (dC : Nat → ClassId) (dI : Nat → Nat → Nat) (sz : Nat) (oM : Nat) (iM_thrown : Int32) (rM_tape : Nat) (iM_taped : Int32) (iM_size : Int32) (iM_at : Int32) (iM_end : Int32) (iM_token : Int32) (iM_whole : Int32) (iM_nameSize : Int32) (iM_fault : Int32) (iM_place : Int32) (iM_trouble : Int32) (rM_letters : Nat) (iM_failed : Int32) (iM_hasCourt : Int32) (rM_r : Nat) (fM_r : Nat → Int32) (kM_r : ClassId) (rM_fresh : Nat) (rM_told : Nat) (fM_told : Nat → Int32) (kM_told : ClassId) (rM_read : Nat) (rM_st : Nat) (fM_st : Nat → Int32) (kM_st : ClassId) (rM_undone : Nat) (rM_kept : Nat) (iM_undos : Int32) (iM_images : Int32) (rM_fresher : Nat) (iM_fresherSize : Int32) (iM_scale : Int32) (iM_night : Int32) (rM_heardRow : Nat) (rM_cutRow : Nat) (iM_breaths : Int32) (iM_cutMany : Int32) (iM_allBreaths : Int32) (rM_trial : Nat) (rM_words : Nat) (iM_fewestBreaths : Int32) (iM_orderMany : Int32) (iM_orderSum : Int32) (iM_leastOrder : Int32) (rM_often : Nat) (iM_setMany : Int32) (iM_someOf : Int32) (iM_allOf : Int32) (iM_allWeight : Int64) (iM_enoughWeight : Int64) (iM_worthSum : Int64) (iM_firstRest : Int32) (iM_leastDrawn : Int32) (b_iM_taped : 0 ≤ iM_taped.toInt ∧ iM_taped.toInt ≤ 900) (b_iM_size : 0 ≤ iM_size.toInt ∧ iM_size.toInt ≤ 900) (b_iM_end : 0 ≤ iM_end.toInt ∧ iM_end.toInt ≤ 900) (b_iM_failed : 0 ≤ iM_failed.toInt ∧ iM_failed.toInt ≤ 1) (b_iM_hasCourt : 0 ≤ iM_hasCourt.toInt ∧ iM_hasCourt.toInt ≤ 1) (b_iM_undos : 0 ≤ iM_undos.toInt ∧ iM_undos.toInt ≤ 16) (b_iM_images : 0 ≤ iM_images.toInt ∧ iM_images.toInt ≤ 3) (b_iM_scale : 1 ≤ iM_scale.toInt ∧ iM_scale.toInt ≤ 1296) (b_iM_breaths : 0 ≤ iM_breaths.toInt ∧ iM_breaths.toInt ≤ 399) (b_iM_cutMany : 0 ≤ iM_cutMany.toInt ∧ iM_cutMany.toInt ≤ 399) (r_R : ROk fM_r) (r_C : iM_hasCourt.toInt ≤ 0 ∨ (1 ≤ (fM_r 1).toInt ∧ 0 ≤ (fM_r 6).toInt ∧ (fM_r 6).toInt < (fM_r 1).toInt)) (r_st : RowOk fM_r fM_st) (r_told : RowOk fM_r fM_told) (r_wst : WorOk fM_st) (hnt : iM_night.toInt = -1) : Met l yX7_settles (Cond.code yX7_settles cX7_settles 2 (some .int) :: wG) ({ frames := 23, cells := 0, slots := 0, locals := 607 }) (va_Pc [.ref oM] (Pw dC dI sz [(oc7 oM iM_thrown rM_tape iM_taped iM_size iM_at iM_end iM_token iM_whole iM_nameSize iM_fault iM_place iM_trouble rM_letters iM_failed iM_hasCourt rM_r rM_fresh rM_told rM_read rM_st rM_undone rM_kept iM_undos iM_images rM_fresher iM_fresherSize iM_scale iM_night rM_heardRow rM_cutRow iM_breaths iM_cutMany iM_allBreaths rM_trial rM_words iM_fewestBreaths iM_orderMany iM_orderSum iM_leastOrder rM_often iM_setMany iM_someOf iM_allOf iM_allWeight iM_enoughWeight iM_worthSum iM_firstRest iM_leastDrawn), (arI rM_r kM_r 287 fM_r), (arI rM_told kM_told 90 fM_told), (arI rM_st kM_st 90 fM_st)] [(kM_r, .int), (kM_told, .int), (kM_st, .int)])) (va_Qi (fun (r : Int32) (u : Nat) => (True ∧ True) ∧ r = Int32.ofNat u) (fun (u : Nat) (t : State) => ∃ (niM_thrown : Int32) (niM_trouble : Int32) (niM_night : Int32), (niM_night.toInt = -1) ∧ (PX7_settles iM_hasCourt fM_r fM_told fM_st iM_scale iM_night = (Int32.ofNat u, niM_thrown, niM_trouble, niM_night)) ∧ Bw dC dI (va_A [(oc7 oM iM_thrown rM_tape iM_taped iM_size iM_at iM_end iM_token iM_whole iM_nameSize iM_fault iM_place iM_trouble rM_letters iM_failed iM_hasCourt rM_r rM_fresh rM_told rM_read rM_st rM_undone rM_kept iM_undos iM_images rM_fresher iM_fresherSize iM_scale iM_night rM_heardRow rM_cutRow iM_breaths iM_cutMany iM_allBreaths rM_trial rM_words iM_fewestBreaths iM_orderMany iM_orderSum iM_leastOrder rM_often iM_setMany iM_someOf iM_allOf iM_allWeight iM_enoughWeight iM_worthSum iM_firstRest iM_leastDrawn), (arI rM_r kM_r 287 fM_r), (arI rM_told kM_told 90 fM_told), (arI rM_st kM_st 90 fM_st)] sz) [(oc7 oM niM_thrown rM_tape iM_taped iM_size iM_at iM_end iM_token iM_whole iM_nameSize iM_fault iM_place niM_trouble rM_letters iM_failed iM_hasCourt rM_r rM_fresh rM_told rM_read rM_st rM_undone rM_kept iM_undos iM_images rM_fresher iM_fresherSize iM_scale niM_night rM_heardRow rM_cutRow iM_breaths iM_cutMany iM_allBreaths rM_trial rM_words iM_fewestBreaths iM_orderMany iM_orderSum iM_leastOrder rM_often iM_setMany iM_someOf iM_allOf iM_allWeight iM_enoughWeight iM_worthSum iM_firstRest iM_leastDrawn), (arI rM_r kM_r 287 fM_r), (arI rM_told kM_told 90 fM_told), (arI rM_st kM_st 90 fM_st)] [(kM_r, .int), (kM_told, .int), (kM_st, .int)] t) (va_A [(oc7 oM iM_thrown rM_tape iM_taped iM_size iM_at iM_end iM_token iM_whole iM_nameSize iM_fault iM_place iM_trouble rM_letters iM_failed iM_hasCourt rM_r rM_fresh rM_told rM_read rM_st rM_undone rM_kept iM_undos iM_images rM_fresher iM_fresherSize iM_scale iM_night rM_heardRow rM_cutRow iM_breaths iM_cutMany iM_allBreaths rM_trial rM_words iM_fewestBreaths iM_orderMany iM_orderSum iM_leastOrder rM_often iM_setMany iM_someOf iM_allOf iM_allWeight iM_enoughWeight iM_worthSum iM_firstRest iM_leastDrawn), (arI rM_r kM_r 287 fM_r), (arI rM_told kM_told 90 fM_told), (arI rM_st kM_st 90 fM_st)] sz)) 0 0 (va_A [(oc7 oM iM_thrown rM_tape iM_taped iM_size iM_at iM_end iM_token iM_whole iM_nameSize iM_fault iM_place iM_trouble rM_letters iM_failed iM_hasCourt rM_r rM_fresh rM_told rM_read rM_st rM_undone rM_kept iM_undos iM_images rM_fresher iM_fresherSize iM_scale iM_night rM_heardRow rM_cutRow iM_breaths iM_cutMany iM_allBreaths rM_trial rM_words iM_fewestBreaths iM_orderMany iM_orderSum iM_leastOrder rM_often iM_setMany iM_someOf iM_allOf iM_allWeight iM_enoughWeight iM_worthSum iM_firstRest iM_leastDrawn), (arI rM_r kM_r 287 fM_r), (arI rM_told kM_told 90 fM_told), (arI rM_st kM_st 90 fM_st)] sz) := by
  refine Met.ofW (cc := cX7_settles) (maxL := 2) (ret := (some .int)) pnX7 rfl ?_
  intro p e s m args below meth c s₁ B hml hv
  obtain ⟨rfl, hsz, hP, hK, hD0, hE⟩ := hv
  have hx := B.exec
  have hb := B.bytes
  have hr := B.returns
  have hts : ∀ w ∈ wG, w.before ([.ref oM] : List Value).toArray s = true := fun w h => atoms_spec (ws := Cond.code yX7_settles cX7_settles 2 (some .int) :: wG) B.pre w (List.mem_cons_of_mem _ h)
  have hown : s.vm.findClass RX7 = some m.cls := own_of B.named rfl
  have hlocks := B.notSynchronized
  subst hsz
  have hD := hD0.self (sz := s.heap.size)
  generalize hAe : va_A [(oc7 oM iM_thrown rM_tape iM_taped iM_size iM_at iM_end iM_token iM_whole iM_nameSize iM_fault iM_place iM_trouble rM_letters iM_failed iM_hasCourt rM_r rM_fresh rM_told rM_read rM_st rM_undone rM_kept iM_undos iM_images rM_fresher iM_fresherSize iM_scale iM_night rM_heardRow rM_cutRow iM_breaths iM_cutMany iM_allBreaths rM_trial rM_words iM_fewestBreaths iM_orderMany iM_orderSum iM_leastOrder rM_often iM_setMany iM_someOf iM_allOf iM_allWeight iM_enoughWeight iM_worthSum iM_firstRest iM_leastDrawn), (arI rM_r kM_r 287 fM_r), (arI rM_told kM_told 90 fM_told), (arI rM_st kM_st 90 fM_st)] s.heap.size = A at hD hE ⊢
  have hA : ∀ q : Nat, s.heap.size ≤ q → A q := fun q h => by rw [← hAe]; exact Or.inr h
  have hS : va_S A s.heap s.heap [] := va_S.rf
  have hl := lv_entry ([.ref oM]) (n := 2) (Nat.le_of_ble_eq_true rfl)
  rw [lg_entry_eq]
  generalize (lg_sl ([.ref oM]) ++ List.replicate (2 - (lg_sl ([.ref oM])).length) Slot.unset).toArray = ls at hl ⊢
  have hl : lv_has ls 2 [(0, .ref oM)] := hl
  have hG := PX7_settles_eq iM_hasCourt fM_r fM_told fM_st iM_scale iM_night
  have s_slips := r_R.slips
  have s_nodes := r_R.nodes
  have s_uns := r_R.uns
  refine lv_aload_n hx hb dX7_settles_0 rfl (lv_at hl 0 rfl) ?_
  have hMs := ml_of hD [true, false, false, false] (wc := [(oc7 oM iM_thrown rM_tape iM_taped iM_size iM_at iM_end iM_token iM_whole iM_nameSize iM_fault iM_place iM_trouble rM_letters iM_failed iM_hasCourt rM_r rM_fresh rM_told rM_read rM_st rM_undone rM_kept iM_undos iM_images rM_fresher iM_fresherSize iM_scale iM_night rM_heardRow rM_cutRow iM_breaths iM_cutMany iM_allBreaths rM_trial rM_words iM_fewestBreaths iM_orderMany iM_orderSum iM_leastOrder rM_often iM_setMany iM_someOf iM_allOf iM_allWeight iM_enoughWeight iM_worthSum iM_firstRest iM_leastDrawn)]) rfl
  have hFc := va_freeM hD hS hA _ hMs
  refine va_callv (va_runV (As := []) (rest := []) ⟨hx, hb, hml, hown, hts⟩ (tX7_good l dC dI _ oM iM_thrown rM_tape iM_taped iM_size iM_at iM_end iM_token iM_whole iM_nameSize iM_fault iM_place iM_trouble rM_letters iM_failed iM_hasCourt rM_r rM_fresh rM_told rM_read rM_st rM_undone rM_kept iM_undos iM_images rM_fresher iM_fresherSize iM_scale iM_night rM_heardRow rM_cutRow iM_breaths iM_cutMany iM_allBreaths rM_trial rM_words iM_fewestBreaths iM_orderMany iM_orderSum iM_leastOrder rM_often iM_setMany iM_someOf iM_allOf iM_allWeight iM_enoughWeight iM_worthSum iM_firstRest iM_leastDrawn b_iM_taped b_iM_size b_iM_end b_iM_failed b_iM_hasCourt b_iM_undos b_iM_images b_iM_scale b_iM_breaths b_iM_cutMany) (cwV 0 hts (wd_V wd_388 wd_389 wd_390 wd_5 (wd_c wd_391)) rfl rfl rfl dv_yX7_good_0 ⟨Nat.le_of_ble_eq_true rfl, Nat.le_of_ble_eq_true rfl⟩) ⟨Pw.fb, recvX7 hK hP (q0 := 0) rfl, fun U hU hW => Pw.to (hP.ms _ hMs) (hD.ms _ hMs) (hK.ms [false, false, false] rfl) hE hS hFc hU hW⟩ rfl rfl hl.1 rfl (lv_room (Nat.le_of_ble_eq_true rfl)) dX7_settles_1 ⟨Nat.le_of_ble_eq_true rfl, Nat.le_of_ble_eq_true rfl⟩) hS (fun q _ h => hFc q h) hFc (fun u t H locs ht hvm hw hB hz1 hk1 hS => ?_)
  refine ex_2_3 hB (fun x_2201 x_2202 b_x_2201 b_x_2202 e_x_2201_0 hB => ?_)
  obtain ⟨hP, hD⟩ := Bw.goN (ws' := [(oc7 oM x_2201 rM_tape iM_taped iM_size iM_at iM_end iM_token iM_whole iM_nameSize iM_fault iM_place x_2202 rM_letters iM_failed iM_hasCourt rM_r rM_fresh rM_told rM_read rM_st rM_undone rM_kept iM_undos iM_images rM_fresher iM_fresherSize iM_scale iM_night rM_heardRow rM_cutRow iM_breaths iM_cutMany iM_allBreaths rM_trial rM_words iM_fewestBreaths iM_orderMany iM_orderSum iM_leastOrder rM_often iM_setMany iM_someOf iM_allOf iM_allWeight iM_enoughWeight iM_worthSum iM_firstRest iM_leastDrawn), (arI rM_r kM_r 287 fM_r), (arI rM_told kM_told 90 fM_told), (arI rM_st kM_st 90 fM_st)]) hB rfl ht hP hD _ hMs hk1 hFc rfl
  clear hz1 hk1 hvm ht hB hMs
  have hG := hG.trans (un2_eq e_x_2201_0)
  refine lv_aload_n hx hb dX7_settles_4 rfl (lv_at hl 0 rfl) ?_
  rcases (id r_C) with r_C0 | r_C1
  · skip
    refine va_get (D := (dC, dI)) (ci := 7) (v := .int iM_hasCourt) (C := RX7) (T := TX7) (N := 48) hx hb hts inX7 hown hK hP 0 rfl rfl 14 (by decide) (hts _ wd_385) (fun _ h9 => h9) rfl dX7_settles_5 ?_
    refine lv_if_ne (tgt := 17) hx hb dX7_settles_8 (by decide) (fun c_2203 => ?_) (fun c_2203 => ?_)
    · skip
      have hG := hG.trans (if_neg c_2203)
      have gc_2203 := ti_ne c_2203 rfl kc_0
      exact (om_c9ba8b89 gc_2203 r_C0 b_iM_hasCourt.1).elim
    · skip
      have hG := hG.trans (if_pos c_2203)
      have gc_2203 := ti_eq c_2203 rfl kc_0
      refine lv_aload_n hx hb dX7_settles_11 rfl (lv_at hl 0 rfl) ?_
      refine lv_iconst (v := 1) hx hb dX7_settles_12 (by decide) ?_
      have hMs := ml_of hD [true, false, false, false] (wc := [(oc7 oM x_2201 rM_tape iM_taped iM_size iM_at iM_end iM_token iM_whole iM_nameSize iM_fault iM_place x_2202 rM_letters iM_failed iM_hasCourt rM_r rM_fresh rM_told rM_read rM_st rM_undone rM_kept iM_undos iM_images rM_fresher iM_fresherSize iM_scale iM_night rM_heardRow rM_cutRow iM_breaths iM_cutMany iM_allBreaths rM_trial rM_words iM_fewestBreaths iM_orderMany iM_orderSum iM_leastOrder rM_often iM_setMany iM_someOf iM_allOf iM_allWeight iM_enoughWeight iM_worthSum iM_firstRest iM_leastDrawn)]) rfl
      have hFc := va_freeM hD hS hA _ hMs
      refine va_calli (va_runV (As := [.int 1]) (rest := []) ⟨hx, hb, hml, hown, hts⟩ (tX7_no l dC dI _ oM x_2201 rM_tape iM_taped iM_size iM_at iM_end iM_token iM_whole iM_nameSize iM_fault iM_place x_2202 rM_letters iM_failed iM_hasCourt rM_r rM_fresh rM_told rM_read rM_st rM_undone rM_kept iM_undos iM_images rM_fresher iM_fresherSize iM_scale iM_night rM_heardRow rM_cutRow iM_breaths iM_cutMany iM_allBreaths rM_trial rM_words iM_fewestBreaths iM_orderMany iM_orderSum iM_leastOrder rM_often iM_setMany iM_someOf iM_allOf iM_allWeight iM_enoughWeight iM_worthSum iM_firstRest iM_leastDrawn 1 b_iM_taped b_iM_size b_iM_end b_iM_failed b_iM_hasCourt b_iM_undos b_iM_images b_iM_scale b_iM_breaths b_iM_cutMany) (cwV 1 hts (wd_V wd_396 wd_397 wd_398 wd_5 (wd_c wd_399)) rfl rfl rfl dv_yX7_no_1 ⟨Nat.le_of_ble_eq_true rfl, Nat.le_of_ble_eq_true rfl⟩) ⟨Pw.fb, recvX7 hK hP (q0 := 0) rfl, fun U hU hW => Pw.to (hP.ms _ hMs) (hD.ms _ hMs) (hK.ms [false, false, false] rfl) hE hS hFc hU hW⟩ rfl rfl hl.1 rfl (lv_room (Nat.le_of_ble_eq_true rfl)) dX7_settles_13 ⟨Nat.le_of_ble_eq_true rfl, Nat.le_of_ble_eq_true rfl⟩) hS (fun q _ h => hFc q h) hFc (fun r u t H locs ht hvm hw hB hz1 hk1 hS => ?_)
      have hru9 := hw.2
      have hw := hw.1
      refine ex_1_1 hB (fun x_2204 e_x_2204_0 hB => ?_)
      obtain ⟨hP, hD⟩ := Bw.goN (ws' := [(oc7 oM x_2201 rM_tape iM_taped iM_size iM_at iM_end iM_token iM_whole iM_nameSize iM_fault iM_place x_2204 rM_letters iM_failed iM_hasCourt rM_r rM_fresh rM_told rM_read rM_st rM_undone rM_kept iM_undos iM_images rM_fresher iM_fresherSize iM_scale iM_night rM_heardRow rM_cutRow iM_breaths iM_cutMany iM_allBreaths rM_trial rM_words iM_fewestBreaths iM_orderMany iM_orderSum iM_leastOrder rM_often iM_setMany iM_someOf iM_allOf iM_allWeight iM_enoughWeight iM_worthSum iM_firstRest iM_leastDrawn), (arI rM_r kM_r 287 fM_r), (arI rM_told kM_told 90 fM_told), (arI rM_st kM_st 90 fM_st)]) hB rfl ht hP hD _ hMs hk1 hFc rfl
      clear hz1 hk1 hvm ht hB hMs
      rw [← hru9] at e_x_2204_0
      obtain ⟨x_2205, rfl⟩ : ∃ z, z = r := ⟨_, rfl⟩
      have hG := hG.trans (un2_eq e_x_2204_0)
      exact wq_i hx hb hr (cI x_2205) ⟨⟨trivial, trivial⟩, (cI_of x_2205)⟩ (fun t ht hW => ⟨x_2201, x_2204, iM_night, hnt, (cI_tup hG), Bw.to hP hD hK ht hW⟩) hS dX7_settles_16 hlocks
  · skip
    refine va_get (D := (dC, dI)) (ci := 7) (v := .int iM_hasCourt) (C := RX7) (T := TX7) (N := 48) hx hb hts inX7 hown hK hP 0 rfl rfl 14 (by decide) (hts _ wd_385) (fun _ h9 => h9) rfl dX7_settles_5 ?_
    refine lv_if_ne (tgt := 17) hx hb dX7_settles_8 (by decide) (fun c_2206 => ?_) (fun c_2206 => ?_)
    · skip
      have hG := hG.trans (if_neg c_2206)
      have gc_2206 := ti_ne c_2206 rfl kc_0
      refine lv_bipush (v := 10) hx hb dX7_settles_17 (by decide) ?_
      refine lv_istore_n (lv' := [(1, .int 10), (0, .ref oM)]) hx hb dX7_settles_19 rfl hl (by decide) rfl (fun ls hl => ?_)
      have hl := lv_sub hl (l' := [(1, .int 10), (0, .ref oM)]) [0, 1] rfl
      have key_n_2209 : ∀ (n_2209 : Nat) (z_2207 : Int32) (z_2208 : Int32) (H : Heap) (locs : List Loc) (ls : Array Slot), (0 ≤ z_2207.toInt ∧ z_2207.toInt ≤ 10) → (z_2208.toInt = -1) → z_2207.toInt.toNat < n_2209 → (PX7_settles iM_hasCourt fM_r fM_told fM_st iM_scale iM_night = HX7_settles_0 fM_r fM_told fM_st iM_scale x_2201 x_2202 n_2209 z_2207 z_2208) → va_P (dC, dI) vwCl [(oc7 oM x_2201 rM_tape iM_taped iM_size iM_at iM_end iM_token iM_whole iM_nameSize iM_fault iM_place x_2202 rM_letters iM_failed iM_hasCourt rM_r rM_fresh rM_told rM_read rM_st rM_undone rM_kept iM_undos iM_images rM_fresher iM_fresherSize iM_scale z_2208 rM_heardRow rM_cutRow iM_breaths iM_cutMany iM_allBreaths rM_trial rM_words iM_fewestBreaths iM_orderMany iM_orderSum iM_leastOrder rM_often iM_setMany iM_someOf iM_allOf iM_allWeight iM_enoughWeight iM_worthSum iM_firstRest iM_leastDrawn), (arI rM_r kM_r 287 fM_r), (arI rM_told kM_told 90 fM_told), (arI rM_st kM_st 90 fM_st)] H → va_D A [(oc7 oM x_2201 rM_tape iM_taped iM_size iM_at iM_end iM_token iM_whole iM_nameSize iM_fault iM_place x_2202 rM_letters iM_failed iM_hasCourt rM_r rM_fresh rM_told rM_read rM_st rM_undone rM_kept iM_undos iM_images rM_fresher iM_fresherSize iM_scale z_2208 rM_heardRow rM_cutRow iM_breaths iM_cutMany iM_allBreaths rM_trial rM_words iM_fewestBreaths iM_orderMany iM_orderSum iM_leastOrder rM_often iM_setMany iM_someOf iM_allOf iM_allWeight iM_enoughWeight iM_worthSum iM_firstRest iM_leastDrawn), (arI rM_r kM_r 287 fM_r), (arI rM_told kM_told 90 fM_told), (arI rM_st kM_st 90 fM_st)] → va_S A s.heap H locs → lv_has ls 2 [(1, .int z_2207), (0, .ref oM)] → W p l e (headSpec (Cond.code yX7_settles cX7_settles 2 (some .int) :: wG) ({ frames := 23, cells := 0, slots := 0, locals := 607 })).room s m ([.ref oM] : List Value).toArray below meth c H locs 0 0 (MQ below (va_Qi (fun (r : Int32) (u : Nat) => (True ∧ True) ∧ r = Int32.ofNat u) (fun (u : Nat) (t : State) => ∃ (niM_thrown : Int32) (niM_trouble : Int32) (niM_night : Int32), (niM_night.toInt = -1) ∧ (PX7_settles iM_hasCourt fM_r fM_told fM_st iM_scale iM_night = (Int32.ofNat u, niM_thrown, niM_trouble, niM_night)) ∧ Bw dC dI A [(oc7 oM niM_thrown rM_tape iM_taped iM_size iM_at iM_end iM_token iM_whole iM_nameSize iM_fault iM_place niM_trouble rM_letters iM_failed iM_hasCourt rM_r rM_fresh rM_told rM_read rM_st rM_undone rM_kept iM_undos iM_images rM_fresher iM_fresherSize iM_scale niM_night rM_heardRow rM_cutRow iM_breaths iM_cutMany iM_allBreaths rM_trial rM_words iM_fewestBreaths iM_orderMany iM_orderSum iM_leastOrder rM_often iM_setMany iM_someOf iM_allOf iM_allWeight iM_enoughWeight iM_worthSum iM_firstRest iM_leastDrawn), (arI rM_r kM_r 287 fM_r), (arI rM_told kM_told 90 fM_told), (arI rM_st kM_st 90 fM_st)] [(kM_r, .int), (kM_told, .int), (kM_st, .int)] t) A) ([.ref oM] : List Value).toArray s 0 0 A) (F0 m 20 ls []) := by
        intro n_2209
        induction n_2209 with
        | zero => intro z_2207 z_2208 H locs ls hi0_n_2209 hi1_n_2209 hm; exact absurd hm (Nat.not_lt_zero _)
        | succ n_2209 ih_n_2209 =>
          intro z_2207 z_2208 H locs ls hi0_n_2209 hi1_n_2209 hm_n_2209 hG hP hD hS hl
          have hG := hG.trans (HX7_settles_0_eq _ _ _ _ _ _ _ _ _)
          refine lv_iload_n hx hb dX7_settles_20 rfl (lv_at hl 0 rfl) ?_
          refine lv_if_le (tgt := 48) hx hb dX7_settles_21 (by decide) (fun c_2210 => ?_) (fun c_2210 => ?_)
          · skip
            have hG := hG.trans (if_pos c_2210)
            have gc_2210 := ti_le c_2210 rfl kc_0
            refine lv_iload_n hx hb dX7_settles_48 rfl (lv_at hl 0 rfl) ?_
            exact wq_i hx hb hr (cI z_2207) ⟨⟨trivial, trivial⟩, (cI_of z_2207)⟩ (fun t ht hW => ⟨x_2201, x_2202, z_2208, hi1_n_2209, (cI_tup hG), Bw.to hP hD hK ht hW⟩) hS dX7_settles_49 hlocks
          · skip
            have hG := hG.trans (if_neg c_2210)
            have gc_2210 := ti_nle c_2210 rfl kc_0
            refine lv_aload_n hx hb dX7_settles_24 rfl (lv_at hl 1 rfl) ?_
            refine lv_iload_n hx hb dX7_settles_25 rfl (lv_at hl 0 rfl) ?_
            refine lv_iconst (v := 1) hx hb dX7_settles_26 (by decide) ?_
            refine lv_isub hx hb dX7_settles_27 ?_
            refine lv_topi (fun x_2211 ex_2211 => ?_)
            have hG := hG.trans (lt_eq ex_2211)
            have vx_2211 : x_2211.toInt = z_2207.toInt + (-1) := om_89646172 (ti_sub ex_2211 rfl kc_1 (om_e65a73c2 hi0_n_2209.1) (om_20253e97 hi0_n_2209.2))
            have hFc := va_freeI hD hS hA
            refine va_calli (va_runV (As := [.int x_2211]) (rest := []) ⟨hx, hb, hml, hown, hts⟩ (tX7_throneAt l dC dI _ oM x_2201 rM_tape iM_taped iM_size iM_at iM_end iM_token iM_whole iM_nameSize iM_fault iM_place x_2202 rM_letters iM_failed iM_hasCourt rM_r fM_r kM_r rM_fresh rM_told fM_told kM_told rM_read rM_st fM_st kM_st rM_undone rM_kept iM_undos iM_images rM_fresher iM_fresherSize iM_scale z_2208 rM_heardRow rM_cutRow iM_breaths iM_cutMany iM_allBreaths rM_trial rM_words iM_fewestBreaths iM_orderMany iM_orderSum iM_leastOrder rM_often iM_setMany iM_someOf iM_allOf iM_allWeight iM_enoughWeight iM_worthSum iM_firstRest iM_leastDrawn x_2211 b_iM_taped b_iM_size b_iM_end b_iM_failed b_iM_hasCourt b_iM_undos b_iM_images b_iM_scale b_iM_breaths b_iM_cutMany (by assumption) (by assumption) (by assumption) (by assumption) (by assumption) ⟨r_C1.2.1, r_C1.2.2⟩) (cwV 1 hts (wd_V wd_1100 wd_1101 wd_1102 wd_5 (wd_c wd_1103)) rfl rfl rfl dv_yX7_throneAt_1 ⟨Nat.le_of_ble_eq_true rfl, Nat.le_of_ble_eq_true rfl⟩) ⟨Pw.fb, recvX7 hK hP (q0 := 0) rfl, fun U hU hW => Pw.to hP hD hK hE hS hFc hU hW⟩ rfl rfl hl.1 rfl (lv_room (Nat.le_of_ble_eq_true rfl)) dX7_settles_28 ⟨Nat.le_of_ble_eq_true rfl, Nat.le_of_ble_eq_true rfl⟩) hS (fun q _ h => hFc q h) hFc (fun r u t H locs ht hvm hw hB hz1 hk1 hS => ?_)
            have hru9 := hw.2
            have hw := hw.1
            refine ex_1_2 hB (fun x_2212 b_x_2212 e_x_2212_0 hB => ?_)
            obtain ⟨hP, hD⟩ := Bw.goA (ws' := [(oc7 oM x_2201 rM_tape iM_taped iM_size iM_at iM_end iM_token iM_whole iM_nameSize iM_fault iM_place x_2202 rM_letters iM_failed iM_hasCourt rM_r rM_fresh rM_told rM_read rM_st rM_undone rM_kept iM_undos iM_images rM_fresher iM_fresherSize iM_scale x_2212 rM_heardRow rM_cutRow iM_breaths iM_cutMany iM_allBreaths rM_trial rM_words iM_fewestBreaths iM_orderMany iM_orderSum iM_leastOrder rM_often iM_setMany iM_someOf iM_allOf iM_allWeight iM_enoughWeight iM_worthSum iM_firstRest iM_leastDrawn), (arI rM_r kM_r 287 fM_r), (arI rM_told kM_told 90 fM_told), (arI rM_st kM_st 90 fM_st)]) hB rfl ht hFc rfl
            clear hz1 hk1 hvm ht hB
            rw [← hru9] at e_x_2212_0
            obtain ⟨x_2213, rfl⟩ : ∃ z, z = r := ⟨_, rfl⟩
            have hG := hG.trans (un2_eq e_x_2212_0)
            refine lv_aload_n hx hb dX7_settles_31 rfl (lv_at hl 1 rfl) ?_
            refine lv_aload_n hx hb dX7_settles_32 rfl (lv_at hl 1 rfl) ?_
            refine va_get (D := (dC, dI)) (ci := 7) (v := .ref rM_st) (C := RX7) (T := TX7) (N := 48) hx hb hts inX7 hown hK hP 0 rfl rfl 19 (by decide) (hts _ wd_159) (fun _ h9 => h9) rfl dX7_settles_33 ?_
            have hFc := va_freeI hD hS hA
            refine va_calli (va_runV (As := [.ref rM_st]) (rest := [.int x_2213]) ⟨hx, hb, hml, hown, hts⟩ (tX7_throneBy l dC dI _ oM x_2201 rM_tape iM_taped iM_size iM_at iM_end iM_token iM_whole iM_nameSize iM_fault iM_place x_2202 rM_letters iM_failed iM_hasCourt rM_r fM_r kM_r rM_fresh rM_told fM_told kM_told rM_read rM_st rM_undone rM_kept iM_undos iM_images rM_fresher iM_fresherSize iM_scale x_2212 rM_heardRow rM_cutRow iM_breaths iM_cutMany iM_allBreaths rM_trial rM_words iM_fewestBreaths iM_orderMany iM_orderSum iM_leastOrder rM_often iM_setMany iM_someOf iM_allOf iM_allWeight iM_enoughWeight iM_worthSum iM_firstRest iM_leastDrawn rM_st fM_st kM_st b_iM_taped b_iM_size b_iM_end b_iM_failed b_iM_hasCourt b_iM_undos b_iM_images b_iM_scale b_iM_breaths b_iM_cutMany (by assumption) (by assumption) (by assumption) (by assumption) ⟨r_C1.2.1, r_C1.2.2⟩) (cwV 1 hts (wd_V wd_979 wd_980 wd_981 wd_5 (wd_c wd_982)) rfl rfl rfl dv_yX7_throneBy_1 ⟨Nat.le_of_ble_eq_true rfl, Nat.le_of_ble_eq_true rfl⟩) ⟨Pw.fb, recvX7 hK hP (q0 := 0) rfl, fun U hU hW => Pw.to hP hD hK hE hS hFc hU hW⟩ rfl rfl hl.1 rfl (lv_room (Nat.le_of_ble_eq_true rfl)) dX7_settles_36 ⟨Nat.le_of_ble_eq_true rfl, Nat.le_of_ble_eq_true rfl⟩) hS (fun q _ h => hFc q h) hFc (fun r u t H locs ht hvm hw hB hz1 hk1 hS => ?_)
            have hru9 := hw.2
            have hw := hw.1
            obtain ⟨hP, hD⟩ := Bw.goA (ws' := [(oc7 oM x_2201 rM_tape iM_taped iM_size iM_at iM_end iM_token iM_whole iM_nameSize iM_fault iM_place x_2202 rM_letters iM_failed iM_hasCourt rM_r rM_fresh rM_told rM_read rM_st rM_undone rM_kept iM_undos iM_images rM_fresher iM_fresherSize iM_scale x_2212 rM_heardRow rM_cutRow iM_breaths iM_cutMany iM_allBreaths rM_trial rM_words iM_fewestBreaths iM_orderMany iM_orderSum iM_leastOrder rM_often iM_setMany iM_someOf iM_allOf iM_allWeight iM_enoughWeight iM_worthSum iM_firstRest iM_leastDrawn), (arI rM_r kM_r 287 fM_r), (arI rM_told kM_told 90 fM_told), (arI rM_st kM_st 90 fM_st)]) hB rfl ht hFc rfl
            clear hz1 hk1 hvm ht hB
            obtain ⟨x_2214, rfl⟩ : ∃ z, z = r := ⟨_, rfl⟩
            have hG := hG.trans (lt_eq hru9.symm)
            refine lv_icmp_ne (tgt := 48) hx hb dX7_settles_39 (by decide) (fun c_2215 => ?_) (fun c_2215 => ?_)
            · skip
              have hG := hG.trans (if_neg c_2215)
              have gc_2215 := ti_ne c_2215 rfl rfl
              refine lv_iload_n hx hb dX7_settles_48 rfl (lv_at hl 0 rfl) ?_
              exact wq_i hx hb hr (cI z_2207) ⟨⟨trivial, trivial⟩, (cI_of z_2207)⟩ (fun t ht hW => ⟨x_2201, x_2202, x_2212, (om_ccbdd137 b_x_2212.2 b_x_2212.1), (cI_tup hG), Bw.to hP hD hK ht hW⟩) hS dX7_settles_49 hlocks
            · skip
              have hG := hG.trans (if_pos c_2215)
              have gc_2215 := ti_eq c_2215 rfl rfl
              obtain ⟨x_2216, ex_2216⟩ : ∃ z : Int32, z = z_2207 + Int32.ofInt (-1) := ⟨_, rfl⟩
              have hG := hG.trans (lt_eq ex_2216)
              have vx_2216 : x_2216.toInt = z_2207.toInt + (-1) := ti_add (y := (-1)) ex_2216 rfl kc_m1 (om_dd968ed2 hi0_n_2209.1) (om_da6e91bb hi0_n_2209.2)
              refine lv_iinc (v := x_2216) (lv' := [(1, .int x_2216), (0, .ref oM)]) hx hb dX7_settles_42 hl (k := 0) rfl ex_2216.symm (by decide) rfl (fun ls hl => ?_)
              refine lv_goto (tgt := 20) hx hb dX7_settles_45 (by decide) ?_
              exact ih_n_2209 x_2216 x_2212 _ _ _  ⟨(om_7080e04c gc_2210 vx_2216), (om_19f1ec8e hi0_n_2209.2 vx_2216)⟩ (om_ccbdd137 b_x_2212.2 b_x_2212.1) (ms_lt hm_n_2209 (om_76844f4e vx_2216) gc_2210) hG hP hD hS (lv_sub hl [0, 1] rfl)
      exact key_n_2209 (((10 : Int32).toInt.toNat) + 1) 10 iM_night _ _ _  ⟨(om_a870273e kc_10), (om_6c1783e4 kc_10)⟩ hnt (Nat.lt_add_one _) hG hP hD hS hl
    · skip
      have hG := hG.trans (if_pos c_2206)
      have gc_2206 := ti_eq c_2206 rfl kc_0
      refine lv_aload_n hx hb dX7_settles_11 rfl (lv_at hl 0 rfl) ?_
      refine lv_iconst (v := 1) hx hb dX7_settles_12 (by decide) ?_
      have hMs := ml_of hD [true, false, false, false] (wc := [(oc7 oM x_2201 rM_tape iM_taped iM_size iM_at iM_end iM_token iM_whole iM_nameSize iM_fault iM_place x_2202 rM_letters iM_failed iM_hasCourt rM_r rM_fresh rM_told rM_read rM_st rM_undone rM_kept iM_undos iM_images rM_fresher iM_fresherSize iM_scale iM_night rM_heardRow rM_cutRow iM_breaths iM_cutMany iM_allBreaths rM_trial rM_words iM_fewestBreaths iM_orderMany iM_orderSum iM_leastOrder rM_often iM_setMany iM_someOf iM_allOf iM_allWeight iM_enoughWeight iM_worthSum iM_firstRest iM_leastDrawn)]) rfl
      have hFc := va_freeM hD hS hA _ hMs
      refine va_calli (va_runV (As := [.int 1]) (rest := []) ⟨hx, hb, hml, hown, hts⟩ (tX7_no l dC dI _ oM x_2201 rM_tape iM_taped iM_size iM_at iM_end iM_token iM_whole iM_nameSize iM_fault iM_place x_2202 rM_letters iM_failed iM_hasCourt rM_r rM_fresh rM_told rM_read rM_st rM_undone rM_kept iM_undos iM_images rM_fresher iM_fresherSize iM_scale iM_night rM_heardRow rM_cutRow iM_breaths iM_cutMany iM_allBreaths rM_trial rM_words iM_fewestBreaths iM_orderMany iM_orderSum iM_leastOrder rM_often iM_setMany iM_someOf iM_allOf iM_allWeight iM_enoughWeight iM_worthSum iM_firstRest iM_leastDrawn 1 b_iM_taped b_iM_size b_iM_end b_iM_failed b_iM_hasCourt b_iM_undos b_iM_images b_iM_scale b_iM_breaths b_iM_cutMany) (cwV 1 hts (wd_V wd_396 wd_397 wd_398 wd_5 (wd_c wd_399)) rfl rfl rfl dv_yX7_no_1 ⟨Nat.le_of_ble_eq_true rfl, Nat.le_of_ble_eq_true rfl⟩) ⟨Pw.fb, recvX7 hK hP (q0 := 0) rfl, fun U hU hW => Pw.to (hP.ms _ hMs) (hD.ms _ hMs) (hK.ms [false, false, false] rfl) hE hS hFc hU hW⟩ rfl rfl hl.1 rfl (lv_room (Nat.le_of_ble_eq_true rfl)) dX7_settles_13 ⟨Nat.le_of_ble_eq_true rfl, Nat.le_of_ble_eq_true rfl⟩) hS (fun q _ h => hFc q h) hFc (fun r u t H locs ht hvm hw hB hz1 hk1 hS => ?_)
      have hru9 := hw.2
      have hw := hw.1
      refine ex_1_1 hB (fun x_2217 e_x_2217_0 hB => ?_)
      obtain ⟨hP, hD⟩ := Bw.goN (ws' := [(oc7 oM x_2201 rM_tape iM_taped iM_size iM_at iM_end iM_token iM_whole iM_nameSize iM_fault iM_place x_2217 rM_letters iM_failed iM_hasCourt rM_r rM_fresh rM_told rM_read rM_st rM_undone rM_kept iM_undos iM_images rM_fresher iM_fresherSize iM_scale iM_night rM_heardRow rM_cutRow iM_breaths iM_cutMany iM_allBreaths rM_trial rM_words iM_fewestBreaths iM_orderMany iM_orderSum iM_leastOrder rM_often iM_setMany iM_someOf iM_allOf iM_allWeight iM_enoughWeight iM_worthSum iM_firstRest iM_leastDrawn), (arI rM_r kM_r 287 fM_r), (arI rM_told kM_told 90 fM_told), (arI rM_st kM_st 90 fM_st)]) hB rfl ht hP hD _ hMs hk1 hFc rfl
      clear hz1 hk1 hvm ht hB hMs
      rw [← hru9] at e_x_2217_0
      obtain ⟨x_2218, rfl⟩ : ∃ z, z = r := ⟨_, rfl⟩
      have hG := hG.trans (un2_eq e_x_2217_0)
      exact wq_i hx hb hr (cI x_2218) ⟨⟨trivial, trivial⟩, (cI_of x_2218)⟩ (fun t ht hW => ⟨x_2201, x_2217, iM_night, hnt, (cI_tup hG), Bw.to hP hD hK ht hW⟩) hS dX7_settles_16 hlocks
set_option maxHeartbeats 4000000 in
set_option maxRecDepth 100000 in
theorem tX7_turnOf (l : Launch) (dC : Nat → ClassId) (dI : Nat → Nat → Nat) (sz : Nat) (oM : Nat) (iM_thrown : Int32) (rM_tape : Nat) (iM_taped : Int32) (iM_size : Int32) (iM_at : Int32) (iM_end : Int32) (iM_token : Int32) (iM_whole : Int32) (iM_nameSize : Int32) (iM_fault : Int32) (iM_place : Int32) (iM_trouble : Int32) (rM_letters : Nat) (iM_failed : Int32) (iM_hasCourt : Int32) (rM_r : Nat) (fM_r : Nat → Int32) (kM_r : ClassId) (rM_fresh : Nat) (rM_told : Nat) (fM_told : Nat → Int32) (kM_told : ClassId) (rM_read : Nat) (rM_st : Nat) (fM_st : Nat → Int32) (kM_st : ClassId) (rM_undone : Nat) (rM_kept : Nat) (iM_undos : Int32) (iM_images : Int32) (rM_fresher : Nat) (iM_fresherSize : Int32) (iM_scale : Int32) (iM_night : Int32) (rM_heardRow : Nat) (rM_cutRow : Nat) (iM_breaths : Int32) (iM_cutMany : Int32) (iM_allBreaths : Int32) (rM_trial : Nat) (fM_trial : Nat → Int32) (kM_trial : ClassId) (rM_words : Nat) (iM_fewestBreaths : Int32) (iM_orderMany : Int32) (iM_orderSum : Int32) (iM_leastOrder : Int32) (rM_often : Nat) (iM_setMany : Int32) (iM_someOf : Int32) (iM_allOf : Int32) (iM_allWeight : Int64) (iM_enoughWeight : Int64) (iM_worthSum : Int64) (iM_firstRest : Int32) (iM_leastDrawn : Int32) (p0 : Int32) (b_iM_taped : 0 ≤ iM_taped.toInt ∧ iM_taped.toInt ≤ 900) (b_iM_size : 0 ≤ iM_size.toInt ∧ iM_size.toInt ≤ 900) (b_iM_end : 0 ≤ iM_end.toInt ∧ iM_end.toInt ≤ 900) (b_iM_failed : 0 ≤ iM_failed.toInt ∧ iM_failed.toInt ≤ 1) (b_iM_hasCourt : 0 ≤ iM_hasCourt.toInt ∧ iM_hasCourt.toInt ≤ 1) (b_iM_undos : 0 ≤ iM_undos.toInt ∧ iM_undos.toInt ≤ 16) (b_iM_images : 0 ≤ iM_images.toInt ∧ iM_images.toInt ≤ 3) (b_iM_scale : 1 ≤ iM_scale.toInt ∧ iM_scale.toInt ≤ 1296) (b_iM_breaths : 0 ≤ iM_breaths.toInt ∧ iM_breaths.toInt ≤ 399) (b_iM_cutMany : 0 ≤ iM_cutMany.toInt ∧ iM_cutMany.toInt ≤ 399) (r_R : ROk fM_r) (r_C : iM_hasCourt.toInt ≤ 0 ∨ (1 ≤ (fM_r 1).toInt ∧ 0 ≤ (fM_r 6).toInt ∧ (fM_r 6).toInt < (fM_r 1).toInt)) (r_st : RowOk fM_r fM_st) (r_told : RowOk fM_r fM_told) (r_wst : WorOk fM_st) (hk0 : 0 ≤ p0.toInt ∧ p0.toInt < (fM_r 1).toInt) (hth : 0 ≤ (fM_r 6).toInt ∧ (fM_r 6).toInt < (fM_r 1).toInt) : Met l yX7_turnOf (Cond.code yX7_turnOf cX7_turnOf 5 (some .int) :: wG) ({ frames := 22, cells := 0, slots := 0, locals := 585 }) (va_Pc [.ref oM, .int p0] (Pw dC dI sz [(oc7 oM iM_thrown rM_tape iM_taped iM_size iM_at iM_end iM_token iM_whole iM_nameSize iM_fault iM_place iM_trouble rM_letters iM_failed iM_hasCourt rM_r rM_fresh rM_told rM_read rM_st rM_undone rM_kept iM_undos iM_images rM_fresher iM_fresherSize iM_scale iM_night rM_heardRow rM_cutRow iM_breaths iM_cutMany iM_allBreaths rM_trial rM_words iM_fewestBreaths iM_orderMany iM_orderSum iM_leastOrder rM_often iM_setMany iM_someOf iM_allOf iM_allWeight iM_enoughWeight iM_worthSum iM_firstRest iM_leastDrawn), (arI rM_r kM_r 287 fM_r), (arI rM_told kM_told 90 fM_told), (arI rM_st kM_st 90 fM_st), (arI rM_trial kM_trial 90 fM_trial)] [(kM_r, .int), (kM_told, .int), (kM_st, .int), (kM_trial, .int)])) (va_Qi (fun (r : Int32) (u : Nat) => (True ∧ True) ∧ r = Int32.ofNat u) (fun (u : Nat) (t : State) => ∃ (nfM_trial : Nat → Int32), (PX7_turnOf fM_r fM_told fM_st iM_scale iM_night fM_trial p0 = (Int32.ofNat u, nfM_trial)) ∧ Bw dC dI (va_A [(oc7 oM iM_thrown rM_tape iM_taped iM_size iM_at iM_end iM_token iM_whole iM_nameSize iM_fault iM_place iM_trouble rM_letters iM_failed iM_hasCourt rM_r rM_fresh rM_told rM_read rM_st rM_undone rM_kept iM_undos iM_images rM_fresher iM_fresherSize iM_scale iM_night rM_heardRow rM_cutRow iM_breaths iM_cutMany iM_allBreaths rM_trial rM_words iM_fewestBreaths iM_orderMany iM_orderSum iM_leastOrder rM_often iM_setMany iM_someOf iM_allOf iM_allWeight iM_enoughWeight iM_worthSum iM_firstRest iM_leastDrawn), (arI rM_r kM_r 287 fM_r), (arI rM_told kM_told 90 fM_told), (arI rM_st kM_st 90 fM_st), (arI rM_trial kM_trial 90 fM_trial)] sz) [(oc7 oM iM_thrown rM_tape iM_taped iM_size iM_at iM_end iM_token iM_whole iM_nameSize iM_fault iM_place iM_trouble rM_letters iM_failed iM_hasCourt rM_r rM_fresh rM_told rM_read rM_st rM_undone rM_kept iM_undos iM_images rM_fresher iM_fresherSize iM_scale iM_night rM_heardRow rM_cutRow iM_breaths iM_cutMany iM_allBreaths rM_trial rM_words iM_fewestBreaths iM_orderMany iM_orderSum iM_leastOrder rM_often iM_setMany iM_someOf iM_allOf iM_allWeight iM_enoughWeight iM_worthSum iM_firstRest iM_leastDrawn), (arI rM_r kM_r 287 fM_r), (arI rM_told kM_told 90 fM_told), (arI rM_st kM_st 90 fM_st), (arI rM_trial kM_trial 90 nfM_trial)] [(kM_r, .int), (kM_told, .int), (kM_st, .int), (kM_trial, .int)] t) (va_A [(oc7 oM iM_thrown rM_tape iM_taped iM_size iM_at iM_end iM_token iM_whole iM_nameSize iM_fault iM_place iM_trouble rM_letters iM_failed iM_hasCourt rM_r rM_fresh rM_told rM_read rM_st rM_undone rM_kept iM_undos iM_images rM_fresher iM_fresherSize iM_scale iM_night rM_heardRow rM_cutRow iM_breaths iM_cutMany iM_allBreaths rM_trial rM_words iM_fewestBreaths iM_orderMany iM_orderSum iM_leastOrder rM_often iM_setMany iM_someOf iM_allOf iM_allWeight iM_enoughWeight iM_worthSum iM_firstRest iM_leastDrawn), (arI rM_r kM_r 287 fM_r), (arI rM_told kM_told 90 fM_told), (arI rM_st kM_st 90 fM_st), (arI rM_trial kM_trial 90 fM_trial)] sz)) 0 0 (va_A [(oc7 oM iM_thrown rM_tape iM_taped iM_size iM_at iM_end iM_token iM_whole iM_nameSize iM_fault iM_place iM_trouble rM_letters iM_failed iM_hasCourt rM_r rM_fresh rM_told rM_read rM_st rM_undone rM_kept iM_undos iM_images rM_fresher iM_fresherSize iM_scale iM_night rM_heardRow rM_cutRow iM_breaths iM_cutMany iM_allBreaths rM_trial rM_words iM_fewestBreaths iM_orderMany iM_orderSum iM_leastOrder rM_often iM_setMany iM_someOf iM_allOf iM_allWeight iM_enoughWeight iM_worthSum iM_firstRest iM_leastDrawn), (arI rM_r kM_r 287 fM_r), (arI rM_told kM_told 90 fM_told), (arI rM_st kM_st 90 fM_st), (arI rM_trial kM_trial 90 fM_trial)] sz) := by
  refine Met.ofW (cc := cX7_turnOf) (maxL := 5) (ret := (some .int)) pnX7 rfl ?_
  intro p e s m args below meth c s₁ B hml hv
  obtain ⟨rfl, hsz, hP, hK, hD0, hE⟩ := hv
  have hx := B.exec
  have hb := B.bytes
  have hr := B.returns
  have hts : ∀ w ∈ wG, w.before ([.ref oM, .int p0] : List Value).toArray s = true := fun w h => atoms_spec (ws := Cond.code yX7_turnOf cX7_turnOf 5 (some .int) :: wG) B.pre w (List.mem_cons_of_mem _ h)
  have hown : s.vm.findClass RX7 = some m.cls := own_of B.named rfl
  have hlocks := B.notSynchronized
  subst hsz
  have hD := hD0.self (sz := s.heap.size)
  generalize hAe : va_A [(oc7 oM iM_thrown rM_tape iM_taped iM_size iM_at iM_end iM_token iM_whole iM_nameSize iM_fault iM_place iM_trouble rM_letters iM_failed iM_hasCourt rM_r rM_fresh rM_told rM_read rM_st rM_undone rM_kept iM_undos iM_images rM_fresher iM_fresherSize iM_scale iM_night rM_heardRow rM_cutRow iM_breaths iM_cutMany iM_allBreaths rM_trial rM_words iM_fewestBreaths iM_orderMany iM_orderSum iM_leastOrder rM_often iM_setMany iM_someOf iM_allOf iM_allWeight iM_enoughWeight iM_worthSum iM_firstRest iM_leastDrawn), (arI rM_r kM_r 287 fM_r), (arI rM_told kM_told 90 fM_told), (arI rM_st kM_st 90 fM_st), (arI rM_trial kM_trial 90 fM_trial)] s.heap.size = A at hD hE ⊢
  have hA : ∀ q : Nat, s.heap.size ≤ q → A q := fun q h => by rw [← hAe]; exact Or.inr h
  have hS : va_S A s.heap s.heap [] := va_S.rf
  have hl := lv_entry ([.ref oM, .int p0]) (n := 5) (Nat.le_of_ble_eq_true rfl)
  rw [lg_entry_eq]
  generalize (lg_sl ([.ref oM, .int p0]) ++ List.replicate (5 - (lg_sl ([.ref oM, .int p0])).length) Slot.unset).toArray = ls at hl ⊢
  have hl : lv_has ls 5 [(0, .ref oM), (1, .int p0)] := hl
  have hG := PX7_turnOf_eq fM_r fM_told fM_st iM_scale iM_night fM_trial p0
  have s_slips := r_R.slips
  have s_nodes := r_R.nodes
  have s_uns := r_R.uns
  have q_p0 := ti_cl (x := p0) rfl hk0.1
  have mn_p0 := r_R.many (27 + p0.toNatClampNeg) (Nat.le_add_right _ _) (om_6c263690 (ti_cl (x := p0) rfl hk0.1) hk0.2 s_nodes.2)
  have kn_p0 := r_R.kind (9 + p0.toNatClampNeg) (Nat.le_add_right _ _) (om_57ce868b (ti_cl (x := p0) rfl hk0.1) hk0.2 s_nodes.2)
  have in_p0 := r_R.inner p0.toNatClampNeg (om_05d4ad0a (ti_cl (x := p0) rfl hk0.1) hk0.2)
  refine lv_aload_n hx hb dX7_turnOf_0 rfl (lv_at hl 0 rfl) ?_
  refine va_get (D := (dC, dI)) (ci := 7) (v := .ref rM_st) (C := RX7) (T := TX7) (N := 48) hx hb hts inX7 hown hK hP 0 rfl rfl 19 (by decide) (hts _ wd_159) (fun _ h9 => h9) rfl dX7_turnOf_1 ?_
  refine lv_iconst (v := 0) hx hb dX7_turnOf_4 (by decide) ?_
  refine lv_aload_n hx hb dX7_turnOf_5 rfl (lv_at hl 0 rfl) ?_
  refine va_get (D := (dC, dI)) (ci := 7) (v := .ref rM_trial) (C := RX7) (T := TX7) (N := 48) hx hb hts inX7 hown hK hP 0 rfl rfl 33 (by decide) (hts _ wd_167) (fun _ h9 => h9) rfl dX7_turnOf_6 ?_
  refine lv_iconst (v := 0) hx hb dX7_turnOf_9 (by decide) ?_
  refine lv_bipush (v := 90) hx hb dX7_turnOf_10 (by decide) ?_
  have hMs := ml_of hD [false, false, false, true, true] (wc := [(arI rM_st kM_st 90 fM_st), (arI rM_trial kM_trial 90 fM_trial)]) rfl
  have hFc := va_freeM hD hS hA _ hMs
  refine va_callv (va_runS (As := [.ref rM_st, .int 0, .ref rM_trial, .int 0, .int 90]) (rest := []) ⟨hx, hb, hml, hown, hts⟩ (tX7_copy_90_90 l dC dI _ rM_st fM_st kM_st rM_trial fM_trial kM_trial 0 0 90 ⟨(om_b1de7dbe kc_0), (om_b1de7dbe kc_0), (om_34f60646 kc_90)⟩ (om_3b9d1022 kc_0 kc_90) (om_3b9d1022 kc_0 kc_90)) (va_cwS 5 hts (wd_S wd_475 wd_476 wd_5 (wd_c wd_477)) rfl rfl rfl ds_yX7_copy_5 ⟨Nat.le_of_ble_eq_true rfl, Nat.le_of_ble_eq_true rfl⟩) ⟨Pw.fb, fun U hU hW => Pw.to (hP.ms _ hMs) (hD.ms _ hMs) (hK.ms [false, false, true, true] rfl) hE hS hFc hU hW⟩ rfl rfl hl.1 rfl (lv_room (Nat.le_of_ble_eq_true rfl)) dX7_turnOf_12 ⟨Nat.le_of_ble_eq_true rfl, Nat.le_of_ble_eq_true rfl⟩) hS (fun q _ h => hFc q h) hFc (fun u t H locs ht hvm hw hB hz1 hk1 hS => ?_)
  refine ex_1_1 hB (fun f_2245 e_f_2245_0 hB => ?_)
  obtain ⟨hP, hD⟩ := Bw.goN (ws' := [(oc7 oM iM_thrown rM_tape iM_taped iM_size iM_at iM_end iM_token iM_whole iM_nameSize iM_fault iM_place iM_trouble rM_letters iM_failed iM_hasCourt rM_r rM_fresh rM_told rM_read rM_st rM_undone rM_kept iM_undos iM_images rM_fresher iM_fresherSize iM_scale iM_night rM_heardRow rM_cutRow iM_breaths iM_cutMany iM_allBreaths rM_trial rM_words iM_fewestBreaths iM_orderMany iM_orderSum iM_leastOrder rM_often iM_setMany iM_someOf iM_allOf iM_allWeight iM_enoughWeight iM_worthSum iM_firstRest iM_leastDrawn), (arI rM_r kM_r 287 fM_r), (arI rM_told kM_told 90 fM_told), (arI rM_st kM_st 90 fM_st), (arI rM_trial kM_trial 90 f_2245)]) hB rfl ht hP hD _ hMs hk1 hFc rfl
  clear hz1 hk1 hvm ht hB hMs
  have r_f_2245 : RowOk fM_r f_2245 := RowOk.copy r_R r_st e_f_2245_0
  have hG := hG.trans (lt_eq (CopyOk.fn e_f_2245_0).symm)
  refine lv_aload_n hx hb dX7_turnOf_15 rfl (lv_at hl 0 rfl) ?_
  refine lv_aload_n hx hb dX7_turnOf_16 rfl (lv_at hl 0 rfl) ?_
  refine va_get (D := (dC, dI)) (ci := 7) (v := .ref rM_st) (C := RX7) (T := TX7) (N := 48) hx hb hts inX7 hown hK hP 0 rfl rfl 19 (by decide) (hts _ wd_159) (fun _ h9 => h9) rfl dX7_turnOf_17 ?_
  have hMs := ml_of hD [true, true, true, true, false] (wc := [(oc7 oM iM_thrown rM_tape iM_taped iM_size iM_at iM_end iM_token iM_whole iM_nameSize iM_fault iM_place iM_trouble rM_letters iM_failed iM_hasCourt rM_r rM_fresh rM_told rM_read rM_st rM_undone rM_kept iM_undos iM_images rM_fresher iM_fresherSize iM_scale iM_night rM_heardRow rM_cutRow iM_breaths iM_cutMany iM_allBreaths rM_trial rM_words iM_fewestBreaths iM_orderMany iM_orderSum iM_leastOrder rM_often iM_setMany iM_someOf iM_allOf iM_allWeight iM_enoughWeight iM_worthSum iM_firstRest iM_leastDrawn), (arI rM_r kM_r 287 fM_r), (arI rM_told kM_told 90 fM_told), (arI rM_st kM_st 90 fM_st)]) rfl
  have hFc := va_freeM hD hS hA _ hMs
  refine va_calli (va_runV (As := [.ref rM_st]) (rest := []) ⟨hx, hb, hml, hown, hts⟩ (tX7_throneBy l dC dI _ oM iM_thrown rM_tape iM_taped iM_size iM_at iM_end iM_token iM_whole iM_nameSize iM_fault iM_place iM_trouble rM_letters iM_failed iM_hasCourt rM_r fM_r kM_r rM_fresh rM_told fM_told kM_told rM_read rM_st rM_undone rM_kept iM_undos iM_images rM_fresher iM_fresherSize iM_scale iM_night rM_heardRow rM_cutRow iM_breaths iM_cutMany iM_allBreaths rM_trial rM_words iM_fewestBreaths iM_orderMany iM_orderSum iM_leastOrder rM_often iM_setMany iM_someOf iM_allOf iM_allWeight iM_enoughWeight iM_worthSum iM_firstRest iM_leastDrawn rM_st fM_st kM_st b_iM_taped b_iM_size b_iM_end b_iM_failed b_iM_hasCourt b_iM_undos b_iM_images b_iM_scale b_iM_breaths b_iM_cutMany (by assumption) (by assumption) (by assumption) (by assumption) ⟨hth.1, hth.2⟩) (cwV 1 hts (wd_V wd_979 wd_980 wd_981 wd_5 (wd_c wd_982)) rfl rfl rfl dv_yX7_throneBy_1 ⟨Nat.le_of_ble_eq_true rfl, Nat.le_of_ble_eq_true rfl⟩) ⟨Pw.fb, recvX7 hK hP (q0 := 0) rfl, fun U hU hW => Pw.to (hP.ms _ hMs) (hD.ms _ hMs) (hK.ms [true, true, true, false] rfl) hE hS hFc hU hW⟩ rfl rfl hl.1 rfl (lv_room (Nat.le_of_ble_eq_true rfl)) dX7_turnOf_20 ⟨Nat.le_of_ble_eq_true rfl, Nat.le_of_ble_eq_true rfl⟩) hS (fun q _ h => hFc q h) hFc (fun r u t H locs ht hvm hw hB hz1 hk1 hS => ?_)
  have hru9 := hw.2
  have hw := hw.1
  obtain ⟨hP, hD⟩ := Bw.goN (ws' := [(oc7 oM iM_thrown rM_tape iM_taped iM_size iM_at iM_end iM_token iM_whole iM_nameSize iM_fault iM_place iM_trouble rM_letters iM_failed iM_hasCourt rM_r rM_fresh rM_told rM_read rM_st rM_undone rM_kept iM_undos iM_images rM_fresher iM_fresherSize iM_scale iM_night rM_heardRow rM_cutRow iM_breaths iM_cutMany iM_allBreaths rM_trial rM_words iM_fewestBreaths iM_orderMany iM_orderSum iM_leastOrder rM_often iM_setMany iM_someOf iM_allOf iM_allWeight iM_enoughWeight iM_worthSum iM_firstRest iM_leastDrawn), (arI rM_r kM_r 287 fM_r), (arI rM_told kM_told 90 fM_told), (arI rM_st kM_st 90 fM_st), (arI rM_trial kM_trial 90 f_2245)]) hB rfl ht hP hD _ hMs hk1 hFc rfl
  clear hz1 hk1 hvm ht hB hMs
  obtain ⟨x_2246, rfl⟩ : ∃ z, z = r := ⟨_, rfl⟩
  have hG := hG.trans (lt_eq hru9.symm)
  refine lv_istore_n (lv' := [(2, .int x_2246), (0, .ref oM), (1, .int p0)]) hx hb dX7_turnOf_23 rfl hl (by decide) rfl (fun ls hl => ?_)
  refine lv_iconst (v := 1) hx hb dX7_turnOf_24 (by decide) ?_
  refine lv_istore_n (lv' := [(3, .int 1), (2, .int x_2246), (0, .ref oM), (1, .int p0)]) hx hb dX7_turnOf_25 rfl hl (by decide) rfl (fun ls hl => ?_)
  have hl := lv_sub hl (l' := [(3, .int 1), (2, .int x_2246), (0, .ref oM), (1, .int p0)]) [0, 1, 2, 3] rfl
  have key_n_2249 : ∀ (n_2249 : Nat) (z_2247 : Int32) (f_2248 : Nat → Int32) (H : Heap) (locs : List Loc) (ls : Array Slot), (1 ≤ z_2247.toInt ∧ z_2247.toInt ≤ 100) → (RowOk fM_r f_2248) → (100 - z_2247.toInt).toNat < n_2249 → (PX7_turnOf fM_r fM_told fM_st iM_scale iM_night fM_trial p0 = HX7_turnOf_0 fM_r fM_told fM_st iM_scale iM_night p0 x_2246 n_2249 z_2247 f_2248) → va_P (dC, dI) vwCl [(oc7 oM iM_thrown rM_tape iM_taped iM_size iM_at iM_end iM_token iM_whole iM_nameSize iM_fault iM_place iM_trouble rM_letters iM_failed iM_hasCourt rM_r rM_fresh rM_told rM_read rM_st rM_undone rM_kept iM_undos iM_images rM_fresher iM_fresherSize iM_scale iM_night rM_heardRow rM_cutRow iM_breaths iM_cutMany iM_allBreaths rM_trial rM_words iM_fewestBreaths iM_orderMany iM_orderSum iM_leastOrder rM_often iM_setMany iM_someOf iM_allOf iM_allWeight iM_enoughWeight iM_worthSum iM_firstRest iM_leastDrawn), (arI rM_r kM_r 287 fM_r), (arI rM_told kM_told 90 fM_told), (arI rM_st kM_st 90 fM_st), (arI rM_trial kM_trial 90 f_2248)] H → va_D A [(oc7 oM iM_thrown rM_tape iM_taped iM_size iM_at iM_end iM_token iM_whole iM_nameSize iM_fault iM_place iM_trouble rM_letters iM_failed iM_hasCourt rM_r rM_fresh rM_told rM_read rM_st rM_undone rM_kept iM_undos iM_images rM_fresher iM_fresherSize iM_scale iM_night rM_heardRow rM_cutRow iM_breaths iM_cutMany iM_allBreaths rM_trial rM_words iM_fewestBreaths iM_orderMany iM_orderSum iM_leastOrder rM_often iM_setMany iM_someOf iM_allOf iM_allWeight iM_enoughWeight iM_worthSum iM_firstRest iM_leastDrawn), (arI rM_r kM_r 287 fM_r), (arI rM_told kM_told 90 fM_told), (arI rM_st kM_st 90 fM_st), (arI rM_trial kM_trial 90 f_2248)] → va_S A s.heap H locs → lv_has ls 5 [(3, .int z_2247), (2, .int x_2246), (0, .ref oM), (1, .int p0)] → W p l e (headSpec (Cond.code yX7_turnOf cX7_turnOf 5 (some .int) :: wG) ({ frames := 22, cells := 0, slots := 0, locals := 585 })).room s m ([.ref oM, .int p0] : List Value).toArray below meth c H locs 0 0 (MQ below (va_Qi (fun (r : Int32) (u : Nat) => (True ∧ True) ∧ r = Int32.ofNat u) (fun (u : Nat) (t : State) => ∃ (nfM_trial : Nat → Int32), (PX7_turnOf fM_r fM_told fM_st iM_scale iM_night fM_trial p0 = (Int32.ofNat u, nfM_trial)) ∧ Bw dC dI A [(oc7 oM iM_thrown rM_tape iM_taped iM_size iM_at iM_end iM_token iM_whole iM_nameSize iM_fault iM_place iM_trouble rM_letters iM_failed iM_hasCourt rM_r rM_fresh rM_told rM_read rM_st rM_undone rM_kept iM_undos iM_images rM_fresher iM_fresherSize iM_scale iM_night rM_heardRow rM_cutRow iM_breaths iM_cutMany iM_allBreaths rM_trial rM_words iM_fewestBreaths iM_orderMany iM_orderSum iM_leastOrder rM_often iM_setMany iM_someOf iM_allOf iM_allWeight iM_enoughWeight iM_worthSum iM_firstRest iM_leastDrawn), (arI rM_r kM_r 287 fM_r), (arI rM_told kM_told 90 fM_told), (arI rM_st kM_st 90 fM_st), (arI rM_trial kM_trial 90 nfM_trial)] [(kM_r, .int), (kM_told, .int), (kM_st, .int), (kM_trial, .int)] t) A) ([.ref oM, .int p0] : List Value).toArray s 0 0 A) (F0 m 26 ls []) := by
    intro n_2249
    induction n_2249 with
    | zero => intro z_2247 f_2248 H locs ls hi0_n_2249 hi1_n_2249 hm; exact absurd hm (Nat.not_lt_zero _)
    | succ n_2249 ih_n_2249 =>
      intro z_2247 f_2248 H locs ls hi0_n_2249 hi1_n_2249 hm_n_2249 hG hP hD hS hl
      have hG := hG.trans (HX7_turnOf_0_eq _ _ _ _ _ _ _ _ _ _)
      refine lv_iload_n hx hb dX7_turnOf_26 rfl (lv_at hl 0 rfl) ?_
      refine lv_bipush (v := 100) hx hb dX7_turnOf_27 (by decide) ?_
      refine lv_icmp_ge (tgt := 108) hx hb dX7_turnOf_29 (by decide) (fun c_2250 => ?_) (fun c_2250 => ?_)
      · skip
        have hG := hG.trans (if_pos c_2250)
        have gc_2250 := ti_le c_2250 kc_100 rfl
        refine lv_bipush (v := (-2)) hx hb dX7_turnOf_108 (by decide) ?_
        exact wq_i hx hb hr (cI (-2)) ⟨⟨trivial, trivial⟩, (cI_of (-2))⟩ (fun t ht hW => ⟨f_2248, (cI_tup hG), Bw.to hP hD hK ht hW⟩) hS dX7_turnOf_110 hlocks
      · skip
        have hG := hG.trans (if_neg c_2250)
        have gc_2250 := ti_nle c_2250 kc_100 rfl
        refine lv_iconst (v := (-1)) hx hb dX7_turnOf_32 (by decide) ?_
        refine lv_istore (lv' := [(4, .int (-1)), (3, .int z_2247), (2, .int x_2246), (0, .ref oM), (1, .int p0)]) hx hb dX7_turnOf_33 hl (by decide) rfl (fun ls hl => ?_)
        have hl := lv_sub hl (l' := [(4, .int (-1)), (3, .int z_2247), (2, .int x_2246), (0, .ref oM), (1, .int p0)]) [0, 1, 2, 3, 4] rfl
        have key_n_2253 : ∀ (n_2253 : Nat) (z_2251 : Int32) (f_2252 : Nat → Int32) (H : Heap) (locs : List Loc) (ls : Array Slot), ((-1) ≤ z_2251.toInt ∧ z_2251.toInt ≤ 3) → (RowOk fM_r f_2252) → (3 - z_2251.toInt).toNat < n_2253 → (PX7_turnOf fM_r fM_told fM_st iM_scale iM_night fM_trial p0 = HX7_turnOf_1 fM_r fM_told fM_st iM_scale iM_night p0 x_2246 z_2247 (fun (z_2247 : Int32) (f_2248 : Nat → Int32) => HX7_turnOf_0 fM_r fM_told fM_st iM_scale iM_night p0 x_2246 n_2249 z_2247 f_2248) n_2253 z_2251 f_2252) → va_P (dC, dI) vwCl [(oc7 oM iM_thrown rM_tape iM_taped iM_size iM_at iM_end iM_token iM_whole iM_nameSize iM_fault iM_place iM_trouble rM_letters iM_failed iM_hasCourt rM_r rM_fresh rM_told rM_read rM_st rM_undone rM_kept iM_undos iM_images rM_fresher iM_fresherSize iM_scale iM_night rM_heardRow rM_cutRow iM_breaths iM_cutMany iM_allBreaths rM_trial rM_words iM_fewestBreaths iM_orderMany iM_orderSum iM_leastOrder rM_often iM_setMany iM_someOf iM_allOf iM_allWeight iM_enoughWeight iM_worthSum iM_firstRest iM_leastDrawn), (arI rM_r kM_r 287 fM_r), (arI rM_told kM_told 90 fM_told), (arI rM_st kM_st 90 fM_st), (arI rM_trial kM_trial 90 f_2252)] H → va_D A [(oc7 oM iM_thrown rM_tape iM_taped iM_size iM_at iM_end iM_token iM_whole iM_nameSize iM_fault iM_place iM_trouble rM_letters iM_failed iM_hasCourt rM_r rM_fresh rM_told rM_read rM_st rM_undone rM_kept iM_undos iM_images rM_fresher iM_fresherSize iM_scale iM_night rM_heardRow rM_cutRow iM_breaths iM_cutMany iM_allBreaths rM_trial rM_words iM_fewestBreaths iM_orderMany iM_orderSum iM_leastOrder rM_often iM_setMany iM_someOf iM_allOf iM_allWeight iM_enoughWeight iM_worthSum iM_firstRest iM_leastDrawn), (arI rM_r kM_r 287 fM_r), (arI rM_told kM_told 90 fM_told), (arI rM_st kM_st 90 fM_st), (arI rM_trial kM_trial 90 f_2252)] → va_S A s.heap H locs → lv_has ls 5 [(4, .int z_2251), (3, .int z_2247), (2, .int x_2246), (0, .ref oM), (1, .int p0)] → W p l e (headSpec (Cond.code yX7_turnOf cX7_turnOf 5 (some .int) :: wG) ({ frames := 22, cells := 0, slots := 0, locals := 585 })).room s m ([.ref oM, .int p0] : List Value).toArray below meth c H locs 0 0 (MQ below (va_Qi (fun (r : Int32) (u : Nat) => (True ∧ True) ∧ r = Int32.ofNat u) (fun (u : Nat) (t : State) => ∃ (nfM_trial : Nat → Int32), (PX7_turnOf fM_r fM_told fM_st iM_scale iM_night fM_trial p0 = (Int32.ofNat u, nfM_trial)) ∧ Bw dC dI A [(oc7 oM iM_thrown rM_tape iM_taped iM_size iM_at iM_end iM_token iM_whole iM_nameSize iM_fault iM_place iM_trouble rM_letters iM_failed iM_hasCourt rM_r rM_fresh rM_told rM_read rM_st rM_undone rM_kept iM_undos iM_images rM_fresher iM_fresherSize iM_scale iM_night rM_heardRow rM_cutRow iM_breaths iM_cutMany iM_allBreaths rM_trial rM_words iM_fewestBreaths iM_orderMany iM_orderSum iM_leastOrder rM_often iM_setMany iM_someOf iM_allOf iM_allWeight iM_enoughWeight iM_worthSum iM_firstRest iM_leastDrawn), (arI rM_r kM_r 287 fM_r), (arI rM_told kM_told 90 fM_told), (arI rM_st kM_st 90 fM_st), (arI rM_trial kM_trial 90 nfM_trial)] [(kM_r, .int), (kM_told, .int), (kM_st, .int), (kM_trial, .int)] t) A) ([.ref oM, .int p0] : List Value).toArray s 0 0 A) (F0 m 35 ls []) := by
          intro n_2253
          induction n_2253 with
          | zero => intro z_2251 f_2252 H locs ls hi0_n_2253 hi1_n_2253 hm; exact absurd hm (Nat.not_lt_zero _)
          | succ n_2253 ih_n_2253 =>
            intro z_2251 f_2252 H locs ls hi0_n_2253 hi1_n_2253 hm_n_2253 hG hP hD hS hl
            have hG := hG.trans (HX7_turnOf_1_eq _ _ _ _ _ _ _ _ _ _ _ _)
            refine lv_iload hx hb dX7_turnOf_35 (lv_at hl 0 rfl) ?_
            refine lv_iconst (v := 2) hx hb dX7_turnOf_37 (by decide) ?_
            refine lv_icmp_ge (tgt := 102) hx hb dX7_turnOf_38 (by decide) (fun c_2254 => ?_) (fun c_2254 => ?_)
            · skip
              have hG := hG.trans (if_pos c_2254)
              have gc_2254 := ti_le c_2254 kc_2 rfl
              obtain ⟨x_2255, ex_2255⟩ : ∃ z : Int32, z = z_2247 + Int32.ofInt 1 := ⟨_, rfl⟩
              have hG := hG.trans (lt_eq ex_2255)
              have vx_2255 : x_2255.toInt = z_2247.toInt + 1 := ti_add (y := 1) ex_2255 rfl kc_1 (om_6872dcca hi0_n_2249.1) (om_710da995 hi0_n_2249.2)
              refine lv_iinc (v := x_2255) (lv' := [(3, .int x_2255), (4, .int z_2251), (2, .int x_2246), (0, .ref oM), (1, .int p0)]) hx hb dX7_turnOf_102 hl (k := 1) rfl ex_2255.symm (by decide) rfl (fun ls hl => ?_)
              refine lv_goto (tgt := 26) hx hb dX7_turnOf_105 (by decide) ?_
              exact ih_n_2249 x_2255 f_2252 _ _ _  ⟨(om_3b07fe9e hi0_n_2249.1 vx_2255), (om_e077b392 gc_2250 vx_2255)⟩ (by first | assumption | omega | decide) (ms_lt hm_n_2249 (om_e5849f50 vx_2255) (om_aedd0fe6 gc_2250)) hG hP hD hS (lv_sub hl [0, 2, 3, 4] rfl)
            · skip
              have hG := hG.trans (if_neg c_2254)
              have gc_2254 := ti_nle c_2254 kc_2 rfl
              refine lv_aload_n hx hb dX7_turnOf_41 rfl (lv_at hl 3 rfl) ?_
              refine va_get (D := (dC, dI)) (ci := 7) (v := .ref rM_trial) (C := RX7) (T := TX7) (N := 48) hx hb hts inX7 hown hK hP 0 rfl rfl 33 (by decide) (hts _ wd_167) (fun _ h9 => h9) rfl dX7_turnOf_42 ?_
              refine lv_bipush (v := 72) hx hb dX7_turnOf_45 (by decide) ?_
              refine lv_iload_n hx hb dX7_turnOf_47 rfl (lv_at hl 4 rfl) ?_
              refine lv_iadd hx hb dX7_turnOf_48 ?_
              refine lv_topi (fun x_2256 ex_2256 => ?_)
              have hG := hG.trans (lt_eq ex_2256)
              have vx_2256 : x_2256.toInt = p0.toInt + 72 := om_2d0716db (ti_add ex_2256 kc_72 rfl (om_7e97233d hk0.1) (om_f5ef1b4a hk0.2 s_nodes.2))
              refine lv_aload_n hx hb dX7_turnOf_49 rfl (lv_at hl 3 rfl) ?_
              refine va_get (D := (dC, dI)) (ci := 7) (v := .ref rM_st) (C := RX7) (T := TX7) (N := 48) hx hb hts inX7 hown hK hP 0 rfl rfl 19 (by decide) (hts _ wd_159) (fun _ h9 => h9) rfl dX7_turnOf_50 ?_
              refine lv_bipush (v := 72) hx hb dX7_turnOf_53 (by decide) ?_
              refine lv_iload_n hx hb dX7_turnOf_55 rfl (lv_at hl 4 rfl) ?_
              refine lv_iadd hx hb dX7_turnOf_56 ?_
              refine lv_topi (fun x_2257 ex_2257 => ?_)
              have hG := hG.trans (lt_eq ex_2257)
              have vx_2257 : x_2257.toInt = p0.toInt + 72 := om_2d0716db (ti_add ex_2257 kc_72 rfl (om_7e97233d hk0.1) (om_f5ef1b4a hk0.2 s_nodes.2))
              refine va_iald hx hb hK hP 3 2 rfl rfl (ti_in vx_2257 (om_2ad8b1ab hk0.1) (om_311d1202 hk0.2 s_nodes.2)) dX7_turnOf_57 ?_
              refine lv_topi (fun x_2258 ex_2258 => ?_)
              have hG := hG.trans (lt_eq ex_2258)
              have kx_2258 : (fM_st x_2257.toNatClampNeg).toInt = x_2258.toInt := by rw [ex_2258]
              have cx_2258 : (fM_st (72 + p0.toNatClampNeg)).toInt = x_2258.toInt := by rw [show 72 + p0.toNatClampNeg = x_2257.toNatClampNeg from (om_cbf191f8 (ti_cl (x := p0) rfl hk0.1) (ti_cl (x := x_2257) vx_2257 (om_2ad8b1ab hk0.1)))]; exact kx_2258
              refine lv_iload hx hb dX7_turnOf_58 (lv_at hl 0 rfl) ?_
              refine lv_iload_n hx hb dX7_turnOf_60 rfl (lv_at hl 1 rfl) ?_
              refine lv_imul hx hb dX7_turnOf_61 ?_
              refine lv_topi (fun x_2259 ex_2259 => ?_)
              have hG := hG.trans (lt_eq ex_2259)
              refine lv_iadd hx hb dX7_turnOf_62 ?_
              refine lv_topi (fun x_2260 ex_2260 => ?_)
              have hG := hG.trans (lt_eq ex_2260)
              refine va_iast hx hb hK hP hD hS 4 3 rfl rfl (ti_in vx_2256 (om_2ad8b1ab hk0.1) (om_311d1202 hk0.2 s_nodes.2)) dX7_turnOf_63 (fun H locs hP hD hS => ?_)
              obtain ⟨f_2261, ef_2261⟩ : ∃ g : Nat → Int32, g = upd f_2252 x_2256.toNatClampNeg x_2260 := ⟨_, rfl⟩
              rw [← ef_2261] at hP hD
              have hG := hG.trans (lt_eq ef_2261)
              obtain ⟨hP, hD⟩ := wl2 (ws' := [(oc7 oM iM_thrown rM_tape iM_taped iM_size iM_at iM_end iM_token iM_whole iM_nameSize iM_fault iM_place iM_trouble rM_letters iM_failed iM_hasCourt rM_r rM_fresh rM_told rM_read rM_st rM_undone rM_kept iM_undos iM_images rM_fresher iM_fresherSize iM_scale iM_night rM_heardRow rM_cutRow iM_breaths iM_cutMany iM_allBreaths rM_trial rM_words iM_fewestBreaths iM_orderMany iM_orderSum iM_leastOrder rM_often iM_setMany iM_someOf iM_allOf iM_allWeight iM_enoughWeight iM_worthSum iM_firstRest iM_leastDrawn), (arI rM_r kM_r 287 fM_r), (arI rM_told kM_told 90 fM_told), (arI rM_st kM_st 90 fM_st), (arI rM_trial kM_trial 90 f_2261)]) hP hD rfl
              have r_f_2261 : RowOk fM_r f_2261 := RowOk.hi r_R hi1_n_2253 ef_2261 (by have q9 := ti_cl (x := x_2256) vx_2256 (om_2ad8b1ab hk0.1); omega)
              refine lv_aload_n hx hb dX7_turnOf_64 rfl (lv_at hl 3 rfl) ?_
              refine va_get (D := (dC, dI)) (ci := 7) (v := .ref rM_trial) (C := RX7) (T := TX7) (N := 48) hx hb hts inX7 hown hK hP 0 rfl rfl 33 (by decide) (hts _ wd_167) (fun _ h9 => h9) rfl dX7_turnOf_65 ?_
              refine lv_bipush (v := 72) hx hb dX7_turnOf_68 (by decide) ?_
              refine lv_iload_n hx hb dX7_turnOf_70 rfl (lv_at hl 4 rfl) ?_
              refine lv_iadd hx hb dX7_turnOf_71 ?_
              refine lv_topi (fun x_2262 ex_2262 => ?_)
              have hG := hG.trans (lt_eq ex_2262)
              have vx_2262 : x_2262.toInt = p0.toInt + 72 := om_2d0716db (ti_add ex_2262 kc_72 rfl (om_7e97233d hk0.1) (om_f5ef1b4a hk0.2 s_nodes.2))
              refine va_iald hx hb hK hP 4 3 rfl rfl (ti_in vx_2262 (om_2ad8b1ab hk0.1) (om_311d1202 hk0.2 s_nodes.2)) dX7_turnOf_72 ?_
              refine lv_topi (fun x_2263 ex_2263 => ?_)
              have hG := hG.trans (lt_eq ex_2263)
              have kx_2263 : (f_2261 x_2262.toNatClampNeg).toInt = x_2263.toInt := by rw [ex_2263]
              have cx_2263 : (f_2261 (72 + p0.toNatClampNeg)).toInt = x_2263.toInt := by rw [show 72 + p0.toNatClampNeg = x_2262.toNatClampNeg from (om_cbf191f8 (ti_cl (x := p0) rfl hk0.1) (ti_cl (x := x_2262) vx_2262 (om_2ad8b1ab hk0.1)))]; exact kx_2263
              refine lv_iconst (v := 0) hx hb dX7_turnOf_73 (by decide) ?_
              refine lv_bipush (v := 99) hx hb dX7_turnOf_74 (by decide) ?_
              have hFc : ∀ q, va_A [] _ q → A q := fun q h => hA q (Nat.le_trans hS.1 (va_nilA h))
              refine va_calli (va_runS (As := [.int x_2263, .int 0, .int 99]) (rest := []) ⟨hx, hb, hml, hown, hts⟩ (tX7_in l dC dI _ x_2263 0 99 ) (va_cwS 3 hts (wd_S wd_393 wd_394 wd_5 (wd_c wd_395)) rfl rfl rfl ds_yX7_in_3 ⟨Nat.le_of_ble_eq_true rfl, Nat.le_of_ble_eq_true rfl⟩) ⟨Pw.fb, fun U hU hW => Pn.to hK hE hS hA hU hW⟩ rfl rfl hl.1 rfl (lv_room (Nat.le_of_ble_eq_true rfl)) dX7_turnOf_76 ⟨Nat.le_of_ble_eq_true rfl, Nat.le_of_ble_eq_true rfl⟩) hS (fun q _ h => hFc q h) hFc (fun r u t H locs ht hvm hw hB hz1 hk1 hS => ?_)
              obtain ⟨hP, hD, hK⟩ := Bw.same ht hvm hP hD hK hk1 hFc
              clear hz1 hk1 hvm ht hB
              have hq9 := hw.2
              have hw := hw.1
              obtain ⟨x_2264, rfl⟩ : ∃ z, z = r := ⟨_, rfl⟩
              have hq_x_2264 := hq9
              have hG := hG.trans (lt_eq hq_x_2264.symm)
              have bx_2264 := hw.1
              have dx_2264 := bz_tb bx_2264
              have px_2264 := hw.2
              rcases px_2264 with ⟨gx_2264, hx_2264⟩ | ⟨gx_2264, hx_2264⟩
              · skip
                have l9x_2264 := kc_0
                have m9x_2264 := kc_99
                refine lv_if_eq (tgt := 96) hx hb dX7_turnOf_79 (by decide) (fun c_2265 => ?_) (fun c_2265 => ?_)
                · skip
                  have hG := hG.trans (if_pos c_2265)
                  have gc_2265 := ti_eq c_2265 rfl kc_0
                  exfalso; clear hG; omega
                · skip
                  have hG := hG.trans (if_neg c_2265)
                  have gc_2265 := ti_ne c_2265 rfl kc_0
                  refine lv_aload_n hx hb dX7_turnOf_82 rfl (lv_at hl 3 rfl) ?_
                  refine lv_aload_n hx hb dX7_turnOf_83 rfl (lv_at hl 3 rfl) ?_
                  refine va_get (D := (dC, dI)) (ci := 7) (v := .ref rM_trial) (C := RX7) (T := TX7) (N := 48) hx hb hts inX7 hown hK hP 0 rfl rfl 33 (by decide) (hts _ wd_167) (fun _ h9 => h9) rfl dX7_turnOf_84 ?_
                  have hMs := ml_of hD [true, true, true, false, true] (wc := [(oc7 oM iM_thrown rM_tape iM_taped iM_size iM_at iM_end iM_token iM_whole iM_nameSize iM_fault iM_place iM_trouble rM_letters iM_failed iM_hasCourt rM_r rM_fresh rM_told rM_read rM_st rM_undone rM_kept iM_undos iM_images rM_fresher iM_fresherSize iM_scale iM_night rM_heardRow rM_cutRow iM_breaths iM_cutMany iM_allBreaths rM_trial rM_words iM_fewestBreaths iM_orderMany iM_orderSum iM_leastOrder rM_often iM_setMany iM_someOf iM_allOf iM_allWeight iM_enoughWeight iM_worthSum iM_firstRest iM_leastDrawn), (arI rM_r kM_r 287 fM_r), (arI rM_told kM_told 90 fM_told), (arI rM_trial kM_trial 90 f_2261)]) rfl
                  have hFc := va_freeM hD hS hA _ hMs
                  refine va_calli (va_runV (As := [.ref rM_trial]) (rest := []) ⟨hx, hb, hml, hown, hts⟩ (tX7_throneBy l dC dI _ oM iM_thrown rM_tape iM_taped iM_size iM_at iM_end iM_token iM_whole iM_nameSize iM_fault iM_place iM_trouble rM_letters iM_failed iM_hasCourt rM_r fM_r kM_r rM_fresh rM_told fM_told kM_told rM_read rM_st rM_undone rM_kept iM_undos iM_images rM_fresher iM_fresherSize iM_scale iM_night rM_heardRow rM_cutRow iM_breaths iM_cutMany iM_allBreaths rM_trial rM_words iM_fewestBreaths iM_orderMany iM_orderSum iM_leastOrder rM_often iM_setMany iM_someOf iM_allOf iM_allWeight iM_enoughWeight iM_worthSum iM_firstRest iM_leastDrawn rM_trial f_2261 kM_trial b_iM_taped b_iM_size b_iM_end b_iM_failed b_iM_hasCourt b_iM_undos b_iM_images b_iM_scale b_iM_breaths b_iM_cutMany (by assumption) (by assumption) (by assumption) (by assumption) ⟨hth.1, hth.2⟩) (cwV 1 hts (wd_V wd_979 wd_980 wd_981 wd_5 (wd_c wd_982)) rfl rfl rfl dv_yX7_throneBy_1 ⟨Nat.le_of_ble_eq_true rfl, Nat.le_of_ble_eq_true rfl⟩) ⟨Pw.fb, recvX7 hK hP (q0 := 0) rfl, fun U hU hW => Pw.to (hP.ms _ hMs) (hD.ms _ hMs) (hK.ms [true, true, false, true] rfl) hE hS hFc hU hW⟩ rfl rfl hl.1 rfl (lv_room (Nat.le_of_ble_eq_true rfl)) dX7_turnOf_87 ⟨Nat.le_of_ble_eq_true rfl, Nat.le_of_ble_eq_true rfl⟩) hS (fun q _ h => hFc q h) hFc (fun r u t H locs ht hvm hw hB hz1 hk1 hS => ?_)
                  have hru9 := hw.2
                  have hw := hw.1
                  obtain ⟨hP, hD⟩ := Bw.goN (ws' := [(oc7 oM iM_thrown rM_tape iM_taped iM_size iM_at iM_end iM_token iM_whole iM_nameSize iM_fault iM_place iM_trouble rM_letters iM_failed iM_hasCourt rM_r rM_fresh rM_told rM_read rM_st rM_undone rM_kept iM_undos iM_images rM_fresher iM_fresherSize iM_scale iM_night rM_heardRow rM_cutRow iM_breaths iM_cutMany iM_allBreaths rM_trial rM_words iM_fewestBreaths iM_orderMany iM_orderSum iM_leastOrder rM_often iM_setMany iM_someOf iM_allOf iM_allWeight iM_enoughWeight iM_worthSum iM_firstRest iM_leastDrawn), (arI rM_r kM_r 287 fM_r), (arI rM_told kM_told 90 fM_told), (arI rM_st kM_st 90 fM_st), (arI rM_trial kM_trial 90 f_2261)]) hB rfl ht hP hD _ hMs hk1 hFc rfl
                  clear hz1 hk1 hvm ht hB hMs
                  obtain ⟨x_2266, rfl⟩ : ∃ z, z = r := ⟨_, rfl⟩
                  have hG := hG.trans (lt_eq hru9.symm)
                  refine lv_iload_n hx hb dX7_turnOf_90 rfl (lv_at hl 2 rfl) ?_
                  refine lv_icmp_eq (tgt := 96) hx hb dX7_turnOf_91 (by decide) (fun c_2267 => ?_) (fun c_2267 => ?_)
                  · skip
                    have hG := hG.trans (if_pos c_2267)
                    have gc_2267 := ti_eq c_2267 rfl rfl
                    obtain ⟨x_2268, ex_2268⟩ : ∃ z : Int32, z = z_2251 + Int32.ofInt 2 := ⟨_, rfl⟩
                    have hG := hG.trans (lt_eq ex_2268)
                    have vx_2268 : x_2268.toInt = z_2251.toInt + 2 := ti_add (y := 2) ex_2268 rfl kc_2 (om_980bf2f9 hi0_n_2253.1) (om_494348b2 hi0_n_2253.2)
                    refine lv_iinc (v := x_2268) (lv' := [(4, .int x_2268), (3, .int z_2247), (2, .int x_2246), (0, .ref oM), (1, .int p0)]) hx hb dX7_turnOf_96 hl (k := 0) rfl ex_2268.symm (by decide) rfl (fun ls hl => ?_)
                    refine lv_goto (tgt := 35) hx hb dX7_turnOf_99 (by decide) ?_
                    exact ih_n_2253 x_2268 f_2261 _ _ _  ⟨(om_d5601802 hi0_n_2253.1 vx_2268), (om_93849e10 gc_2254 vx_2268)⟩ (by first | assumption | omega | decide) (ms_lt hm_n_2253 (om_230aefbf vx_2268) (om_5e41bb97 gc_2254)) hG hP hD hS (lv_sub hl [0, 1, 2, 3, 4] rfl)
                  · skip
                    have hG := hG.trans (if_neg c_2267)
                    have gc_2267 := ti_ne c_2267 rfl rfl
                    refine lv_iload_n hx hb dX7_turnOf_94 rfl (lv_at hl 1 rfl) ?_
                    exact wq_i hx hb hr (cI z_2247) ⟨⟨trivial, trivial⟩, (cI_of z_2247)⟩ (fun t ht hW => ⟨f_2261, (cI_tup hG), Bw.to hP hD hK ht hW⟩) hS dX7_turnOf_95 hlocks
              · skip
                have l9x_2264 := kc_0
                have m9x_2264 := kc_99
                refine lv_if_eq (tgt := 96) hx hb dX7_turnOf_79 (by decide) (fun c_2269 => ?_) (fun c_2269 => ?_)
                · skip
                  have hG := hG.trans (if_pos c_2269)
                  have gc_2269 := ti_eq c_2269 rfl kc_0
                  obtain ⟨x_2270, ex_2270⟩ : ∃ z : Int32, z = z_2251 + Int32.ofInt 2 := ⟨_, rfl⟩
                  have hG := hG.trans (lt_eq ex_2270)
                  have vx_2270 : x_2270.toInt = z_2251.toInt + 2 := ti_add (y := 2) ex_2270 rfl kc_2 (om_980bf2f9 hi0_n_2253.1) (om_494348b2 hi0_n_2253.2)
                  refine lv_iinc (v := x_2270) (lv' := [(4, .int x_2270), (3, .int z_2247), (2, .int x_2246), (0, .ref oM), (1, .int p0)]) hx hb dX7_turnOf_96 hl (k := 0) rfl ex_2270.symm (by decide) rfl (fun ls hl => ?_)
                  refine lv_goto (tgt := 35) hx hb dX7_turnOf_99 (by decide) ?_
                  exact ih_n_2253 x_2270 f_2261 _ _ _  ⟨(om_d5601802 hi0_n_2253.1 vx_2270), (om_93849e10 gc_2254 vx_2270)⟩ (by first | assumption | omega | decide) (ms_lt hm_n_2253 (om_230aefbf vx_2270) (om_5e41bb97 gc_2254)) hG hP hD hS (lv_sub hl [0, 1, 2, 3, 4] rfl)
                · skip
                  have hG := hG.trans (if_neg c_2269)
                  have gc_2269 := ti_ne c_2269 rfl kc_0
                  exfalso; clear hG; omega
        exact key_n_2253 (((3 - (-1 : Int32).toInt).toNat) + 1) (-1) f_2248 _ _ _  ⟨(om_05aad589 kc_m1), (om_dd448aec kc_m1)⟩ (by first | assumption | omega | decide) (Nat.lt_add_one _) hG hP hD hS hl
  exact key_n_2249 (((100 - (1 : Int32).toInt).toNat) + 1) 1 f_2245 _ _ _  ⟨(om_c083232f kc_1), (om_c195dea7 kc_1)⟩ (by first | assumption | omega | decide) (Nat.lt_add_one _) hG hP hD hS hl
set_option maxHeartbeats 4000000 in
set_option maxRecDepth 100000 in
theorem tX7_turn (l : Launch) (dC : Nat → ClassId) (dI : Nat → Nat → Nat) (sz : Nat) (oM : Nat) (iM_thrown : Int32) (rM_tape : Nat) (iM_taped : Int32) (iM_size : Int32) (iM_at : Int32) (iM_end : Int32) (iM_token : Int32) (iM_whole : Int32) (iM_nameSize : Int32) (iM_fault : Int32) (iM_place : Int32) (iM_trouble : Int32) (rM_letters : Nat) (iM_failed : Int32) (iM_hasCourt : Int32) (rM_r : Nat) (fM_r : Nat → Int32) (kM_r : ClassId) (rM_fresh : Nat) (rM_told : Nat) (fM_told : Nat → Int32) (kM_told : ClassId) (rM_read : Nat) (rM_st : Nat) (fM_st : Nat → Int32) (kM_st : ClassId) (rM_undone : Nat) (rM_kept : Nat) (iM_undos : Int32) (iM_images : Int32) (rM_fresher : Nat) (iM_fresherSize : Int32) (iM_scale : Int32) (iM_night : Int32) (rM_heardRow : Nat) (rM_cutRow : Nat) (iM_breaths : Int32) (iM_cutMany : Int32) (iM_allBreaths : Int32) (rM_trial : Nat) (fM_trial : Nat → Int32) (kM_trial : ClassId) (rM_words : Nat) (iM_fewestBreaths : Int32) (iM_orderMany : Int32) (iM_orderSum : Int32) (iM_leastOrder : Int32) (rM_often : Nat) (iM_setMany : Int32) (iM_someOf : Int32) (iM_allOf : Int32) (iM_allWeight : Int64) (iM_enoughWeight : Int64) (iM_worthSum : Int64) (iM_firstRest : Int32) (iM_leastDrawn : Int32) (p0 : Int32) (b_iM_taped : 0 ≤ iM_taped.toInt ∧ iM_taped.toInt ≤ 900) (b_iM_size : 0 ≤ iM_size.toInt ∧ iM_size.toInt ≤ 900) (b_iM_end : 0 ≤ iM_end.toInt ∧ iM_end.toInt ≤ 900) (b_iM_failed : 0 ≤ iM_failed.toInt ∧ iM_failed.toInt ≤ 1) (b_iM_hasCourt : 0 ≤ iM_hasCourt.toInt ∧ iM_hasCourt.toInt ≤ 1) (b_iM_undos : 0 ≤ iM_undos.toInt ∧ iM_undos.toInt ≤ 16) (b_iM_images : 0 ≤ iM_images.toInt ∧ iM_images.toInt ≤ 3) (b_iM_scale : 1 ≤ iM_scale.toInt ∧ iM_scale.toInt ≤ 1296) (b_iM_breaths : 0 ≤ iM_breaths.toInt ∧ iM_breaths.toInt ≤ 399) (b_iM_cutMany : 0 ≤ iM_cutMany.toInt ∧ iM_cutMany.toInt ≤ 399) (r_R : ROk fM_r) (r_C : iM_hasCourt.toInt ≤ 0 ∨ (1 ≤ (fM_r 1).toInt ∧ 0 ≤ (fM_r 6).toInt ∧ (fM_r 6).toInt < (fM_r 1).toInt)) (r_st : RowOk fM_r fM_st) (r_told : RowOk fM_r fM_told) (r_wst : WorOk fM_st)  : Met l yX7_turn (Cond.code yX7_turn cX7_turn 2 (some .int) :: wG) ({ frames := 23, cells := 0, slots := 0, locals := 609 }) (va_Pc [.ref oM, .int p0] (Pw dC dI sz [(oc7 oM iM_thrown rM_tape iM_taped iM_size iM_at iM_end iM_token iM_whole iM_nameSize iM_fault iM_place iM_trouble rM_letters iM_failed iM_hasCourt rM_r rM_fresh rM_told rM_read rM_st rM_undone rM_kept iM_undos iM_images rM_fresher iM_fresherSize iM_scale iM_night rM_heardRow rM_cutRow iM_breaths iM_cutMany iM_allBreaths rM_trial rM_words iM_fewestBreaths iM_orderMany iM_orderSum iM_leastOrder rM_often iM_setMany iM_someOf iM_allOf iM_allWeight iM_enoughWeight iM_worthSum iM_firstRest iM_leastDrawn), (arI rM_r kM_r 287 fM_r), (arI rM_told kM_told 90 fM_told), (arI rM_st kM_st 90 fM_st), (arI rM_trial kM_trial 90 fM_trial)] [(kM_r, .int), (kM_told, .int), (kM_st, .int), (kM_trial, .int)])) (va_Qi (fun (r : Int32) (u : Nat) => (True ∧ True) ∧ r = Int32.ofNat u) (fun (u : Nat) (t : State) => ∃ (niM_thrown : Int32) (niM_trouble : Int32) (nfM_trial : Nat → Int32), (PX7_turn iM_hasCourt fM_r fM_told fM_st iM_scale iM_night fM_trial p0 = (Int32.ofNat u, niM_thrown, niM_trouble, nfM_trial)) ∧ Bw dC dI (va_A [(oc7 oM iM_thrown rM_tape iM_taped iM_size iM_at iM_end iM_token iM_whole iM_nameSize iM_fault iM_place iM_trouble rM_letters iM_failed iM_hasCourt rM_r rM_fresh rM_told rM_read rM_st rM_undone rM_kept iM_undos iM_images rM_fresher iM_fresherSize iM_scale iM_night rM_heardRow rM_cutRow iM_breaths iM_cutMany iM_allBreaths rM_trial rM_words iM_fewestBreaths iM_orderMany iM_orderSum iM_leastOrder rM_often iM_setMany iM_someOf iM_allOf iM_allWeight iM_enoughWeight iM_worthSum iM_firstRest iM_leastDrawn), (arI rM_r kM_r 287 fM_r), (arI rM_told kM_told 90 fM_told), (arI rM_st kM_st 90 fM_st), (arI rM_trial kM_trial 90 fM_trial)] sz) [(oc7 oM niM_thrown rM_tape iM_taped iM_size iM_at iM_end iM_token iM_whole iM_nameSize iM_fault iM_place niM_trouble rM_letters iM_failed iM_hasCourt rM_r rM_fresh rM_told rM_read rM_st rM_undone rM_kept iM_undos iM_images rM_fresher iM_fresherSize iM_scale iM_night rM_heardRow rM_cutRow iM_breaths iM_cutMany iM_allBreaths rM_trial rM_words iM_fewestBreaths iM_orderMany iM_orderSum iM_leastOrder rM_often iM_setMany iM_someOf iM_allOf iM_allWeight iM_enoughWeight iM_worthSum iM_firstRest iM_leastDrawn), (arI rM_r kM_r 287 fM_r), (arI rM_told kM_told 90 fM_told), (arI rM_st kM_st 90 fM_st), (arI rM_trial kM_trial 90 nfM_trial)] [(kM_r, .int), (kM_told, .int), (kM_st, .int), (kM_trial, .int)] t) (va_A [(oc7 oM iM_thrown rM_tape iM_taped iM_size iM_at iM_end iM_token iM_whole iM_nameSize iM_fault iM_place iM_trouble rM_letters iM_failed iM_hasCourt rM_r rM_fresh rM_told rM_read rM_st rM_undone rM_kept iM_undos iM_images rM_fresher iM_fresherSize iM_scale iM_night rM_heardRow rM_cutRow iM_breaths iM_cutMany iM_allBreaths rM_trial rM_words iM_fewestBreaths iM_orderMany iM_orderSum iM_leastOrder rM_often iM_setMany iM_someOf iM_allOf iM_allWeight iM_enoughWeight iM_worthSum iM_firstRest iM_leastDrawn), (arI rM_r kM_r 287 fM_r), (arI rM_told kM_told 90 fM_told), (arI rM_st kM_st 90 fM_st), (arI rM_trial kM_trial 90 fM_trial)] sz)) 0 0 (va_A [(oc7 oM iM_thrown rM_tape iM_taped iM_size iM_at iM_end iM_token iM_whole iM_nameSize iM_fault iM_place iM_trouble rM_letters iM_failed iM_hasCourt rM_r rM_fresh rM_told rM_read rM_st rM_undone rM_kept iM_undos iM_images rM_fresher iM_fresherSize iM_scale iM_night rM_heardRow rM_cutRow iM_breaths iM_cutMany iM_allBreaths rM_trial rM_words iM_fewestBreaths iM_orderMany iM_orderSum iM_leastOrder rM_often iM_setMany iM_someOf iM_allOf iM_allWeight iM_enoughWeight iM_worthSum iM_firstRest iM_leastDrawn), (arI rM_r kM_r 287 fM_r), (arI rM_told kM_told 90 fM_told), (arI rM_st kM_st 90 fM_st), (arI rM_trial kM_trial 90 fM_trial)] sz) := by
  refine Met.ofW (cc := cX7_turn) (maxL := 2) (ret := (some .int)) pnX7 rfl ?_
  intro p e s m args below meth c s₁ B hml hv
  obtain ⟨rfl, hsz, hP, hK, hD0, hE⟩ := hv
  have hx := B.exec
  have hb := B.bytes
  have hr := B.returns
  have hts : ∀ w ∈ wG, w.before ([.ref oM, .int p0] : List Value).toArray s = true := fun w h => atoms_spec (ws := Cond.code yX7_turn cX7_turn 2 (some .int) :: wG) B.pre w (List.mem_cons_of_mem _ h)
  have hown : s.vm.findClass RX7 = some m.cls := own_of B.named rfl
  have hlocks := B.notSynchronized
  subst hsz
  have hD := hD0.self (sz := s.heap.size)
  generalize hAe : va_A [(oc7 oM iM_thrown rM_tape iM_taped iM_size iM_at iM_end iM_token iM_whole iM_nameSize iM_fault iM_place iM_trouble rM_letters iM_failed iM_hasCourt rM_r rM_fresh rM_told rM_read rM_st rM_undone rM_kept iM_undos iM_images rM_fresher iM_fresherSize iM_scale iM_night rM_heardRow rM_cutRow iM_breaths iM_cutMany iM_allBreaths rM_trial rM_words iM_fewestBreaths iM_orderMany iM_orderSum iM_leastOrder rM_often iM_setMany iM_someOf iM_allOf iM_allWeight iM_enoughWeight iM_worthSum iM_firstRest iM_leastDrawn), (arI rM_r kM_r 287 fM_r), (arI rM_told kM_told 90 fM_told), (arI rM_st kM_st 90 fM_st), (arI rM_trial kM_trial 90 fM_trial)] s.heap.size = A at hD hE ⊢
  have hA : ∀ q : Nat, s.heap.size ≤ q → A q := fun q h => by rw [← hAe]; exact Or.inr h
  have hS : va_S A s.heap s.heap [] := va_S.rf
  have hl := lv_entry ([.ref oM, .int p0]) (n := 2) (Nat.le_of_ble_eq_true rfl)
  rw [lg_entry_eq]
  generalize (lg_sl ([.ref oM, .int p0]) ++ List.replicate (2 - (lg_sl ([.ref oM, .int p0])).length) Slot.unset).toArray = ls at hl ⊢
  have hl : lv_has ls 2 [(0, .ref oM), (1, .int p0)] := hl
  have hG := PX7_turn_eq iM_hasCourt fM_r fM_told fM_st iM_scale iM_night fM_trial p0
  have s_slips := r_R.slips
  have s_nodes := r_R.nodes
  have s_uns := r_R.uns
  refine lv_aload_n hx hb dX7_turn_0 rfl (lv_at hl 0 rfl) ?_
  have hMs := ml_of hD [true, false, false, false, false] (wc := [(oc7 oM iM_thrown rM_tape iM_taped iM_size iM_at iM_end iM_token iM_whole iM_nameSize iM_fault iM_place iM_trouble rM_letters iM_failed iM_hasCourt rM_r rM_fresh rM_told rM_read rM_st rM_undone rM_kept iM_undos iM_images rM_fresher iM_fresherSize iM_scale iM_night rM_heardRow rM_cutRow iM_breaths iM_cutMany iM_allBreaths rM_trial rM_words iM_fewestBreaths iM_orderMany iM_orderSum iM_leastOrder rM_often iM_setMany iM_someOf iM_allOf iM_allWeight iM_enoughWeight iM_worthSum iM_firstRest iM_leastDrawn)]) rfl
  have hFc := va_freeM hD hS hA _ hMs
  refine va_callv (va_runV (As := []) (rest := []) ⟨hx, hb, hml, hown, hts⟩ (tX7_good l dC dI _ oM iM_thrown rM_tape iM_taped iM_size iM_at iM_end iM_token iM_whole iM_nameSize iM_fault iM_place iM_trouble rM_letters iM_failed iM_hasCourt rM_r rM_fresh rM_told rM_read rM_st rM_undone rM_kept iM_undos iM_images rM_fresher iM_fresherSize iM_scale iM_night rM_heardRow rM_cutRow iM_breaths iM_cutMany iM_allBreaths rM_trial rM_words iM_fewestBreaths iM_orderMany iM_orderSum iM_leastOrder rM_often iM_setMany iM_someOf iM_allOf iM_allWeight iM_enoughWeight iM_worthSum iM_firstRest iM_leastDrawn b_iM_taped b_iM_size b_iM_end b_iM_failed b_iM_hasCourt b_iM_undos b_iM_images b_iM_scale b_iM_breaths b_iM_cutMany) (cwV 0 hts (wd_V wd_388 wd_389 wd_390 wd_5 (wd_c wd_391)) rfl rfl rfl dv_yX7_good_0 ⟨Nat.le_of_ble_eq_true rfl, Nat.le_of_ble_eq_true rfl⟩) ⟨Pw.fb, recvX7 hK hP (q0 := 0) rfl, fun U hU hW => Pw.to (hP.ms _ hMs) (hD.ms _ hMs) (hK.ms [false, false, false, false] rfl) hE hS hFc hU hW⟩ rfl rfl hl.1 rfl (lv_room (Nat.le_of_ble_eq_true rfl)) dX7_turn_1 ⟨Nat.le_of_ble_eq_true rfl, Nat.le_of_ble_eq_true rfl⟩) hS (fun q _ h => hFc q h) hFc (fun u t H locs ht hvm hw hB hz1 hk1 hS => ?_)
  refine ex_2_3 hB (fun x_2280 x_2281 b_x_2280 b_x_2281 e_x_2280_0 hB => ?_)
  obtain ⟨hP, hD⟩ := Bw.goN (ws' := [(oc7 oM x_2280 rM_tape iM_taped iM_size iM_at iM_end iM_token iM_whole iM_nameSize iM_fault iM_place x_2281 rM_letters iM_failed iM_hasCourt rM_r rM_fresh rM_told rM_read rM_st rM_undone rM_kept iM_undos iM_images rM_fresher iM_fresherSize iM_scale iM_night rM_heardRow rM_cutRow iM_breaths iM_cutMany iM_allBreaths rM_trial rM_words iM_fewestBreaths iM_orderMany iM_orderSum iM_leastOrder rM_often iM_setMany iM_someOf iM_allOf iM_allWeight iM_enoughWeight iM_worthSum iM_firstRest iM_leastDrawn), (arI rM_r kM_r 287 fM_r), (arI rM_told kM_told 90 fM_told), (arI rM_st kM_st 90 fM_st), (arI rM_trial kM_trial 90 fM_trial)]) hB rfl ht hP hD _ hMs hk1 hFc rfl
  clear hz1 hk1 hvm ht hB hMs
  have hG := hG.trans (un2_eq e_x_2280_0)
  refine lv_aload_n hx hb dX7_turn_4 rfl (lv_at hl 0 rfl) ?_
  refine lv_iload_n hx hb dX7_turn_5 rfl (lv_at hl 1 rfl) ?_
  have hMs := ml_of hD [true, true, false, false, false] (wc := [(oc7 oM x_2280 rM_tape iM_taped iM_size iM_at iM_end iM_token iM_whole iM_nameSize iM_fault iM_place x_2281 rM_letters iM_failed iM_hasCourt rM_r rM_fresh rM_told rM_read rM_st rM_undone rM_kept iM_undos iM_images rM_fresher iM_fresherSize iM_scale iM_night rM_heardRow rM_cutRow iM_breaths iM_cutMany iM_allBreaths rM_trial rM_words iM_fewestBreaths iM_orderMany iM_orderSum iM_leastOrder rM_often iM_setMany iM_someOf iM_allOf iM_allWeight iM_enoughWeight iM_worthSum iM_firstRest iM_leastDrawn), (arI rM_r kM_r 287 fM_r)]) rfl
  have hFc := va_freeM hD hS hA _ hMs
  refine va_calli (va_runV (As := [.int p0]) (rest := []) ⟨hx, hb, hml, hown, hts⟩ (tX7_isWordNode l dC dI _ oM x_2280 rM_tape iM_taped iM_size iM_at iM_end iM_token iM_whole iM_nameSize iM_fault iM_place x_2281 rM_letters iM_failed iM_hasCourt rM_r fM_r kM_r rM_fresh rM_told rM_read rM_st rM_undone rM_kept iM_undos iM_images rM_fresher iM_fresherSize iM_scale iM_night rM_heardRow rM_cutRow iM_breaths iM_cutMany iM_allBreaths rM_trial rM_words iM_fewestBreaths iM_orderMany iM_orderSum iM_leastOrder rM_often iM_setMany iM_someOf iM_allOf iM_allWeight iM_enoughWeight iM_worthSum iM_firstRest iM_leastDrawn p0 b_iM_taped b_iM_size b_iM_end b_iM_failed b_iM_hasCourt b_iM_undos b_iM_images b_iM_scale b_iM_breaths b_iM_cutMany (by assumption) (by assumption)) (cwV 1 hts (wd_V wd_1139 wd_1140 wd_1141 wd_5 (wd_c wd_1142)) rfl rfl rfl dv_yX7_isWordNode_1 ⟨Nat.le_of_ble_eq_true rfl, Nat.le_of_ble_eq_true rfl⟩) ⟨Pw.fb, recvX7 hK hP (q0 := 0) rfl, fun U hU hW => Pw.to (hP.ms _ hMs) (hD.ms _ hMs) (hK.ms [true, false, false, false] rfl) hE hS hFc hU hW⟩ rfl rfl hl.1 rfl (lv_room (Nat.le_of_ble_eq_true rfl)) dX7_turn_6 ⟨Nat.le_of_ble_eq_true rfl, Nat.le_of_ble_eq_true rfl⟩) hS (fun q _ h => hFc q h) hFc (fun r u t H locs ht hvm hw hB hz1 hk1 hS => ?_)
  have hru9 := hw.2
  have hw := hw.1
  obtain ⟨hP, hD⟩ := Bw.goN (ws' := [(oc7 oM x_2280 rM_tape iM_taped iM_size iM_at iM_end iM_token iM_whole iM_nameSize iM_fault iM_place x_2281 rM_letters iM_failed iM_hasCourt rM_r rM_fresh rM_told rM_read rM_st rM_undone rM_kept iM_undos iM_images rM_fresher iM_fresherSize iM_scale iM_night rM_heardRow rM_cutRow iM_breaths iM_cutMany iM_allBreaths rM_trial rM_words iM_fewestBreaths iM_orderMany iM_orderSum iM_leastOrder rM_often iM_setMany iM_someOf iM_allOf iM_allWeight iM_enoughWeight iM_worthSum iM_firstRest iM_leastDrawn), (arI rM_r kM_r 287 fM_r), (arI rM_told kM_told 90 fM_told), (arI rM_st kM_st 90 fM_st), (arI rM_trial kM_trial 90 fM_trial)]) hB rfl ht hP hD _ hMs hk1 hFc rfl
  clear hz1 hk1 hvm ht hB hMs
  rcases hw.2 with ⟨rfl, hc_2282⟩ | ⟨rfl, hc_2282⟩
  · skip
    have hG := hG.trans (lt_eq hru9.symm)
    have hG := hG.trans (if_pos rfl)
    refine lv_if_eq (tgt := 20) hx hb dX7_turn_9 (by decide) (fun c => absurd c (by decide)) (fun _ => ?_)
    refine lv_aload_n hx hb dX7_turn_12 rfl (lv_at hl 0 rfl) ?_
    refine lv_iload_n hx hb dX7_turn_13 rfl (lv_at hl 1 rfl) ?_
    have hFc := va_freeI hD hS hA
    refine va_calli (va_runV (As := [.int p0]) (rest := []) ⟨hx, hb, hml, hown, hts⟩ (tX7_turnOf l dC dI _ oM x_2280 rM_tape iM_taped iM_size iM_at iM_end iM_token iM_whole iM_nameSize iM_fault iM_place x_2281 rM_letters iM_failed iM_hasCourt rM_r fM_r kM_r rM_fresh rM_told fM_told kM_told rM_read rM_st fM_st kM_st rM_undone rM_kept iM_undos iM_images rM_fresher iM_fresherSize iM_scale iM_night rM_heardRow rM_cutRow iM_breaths iM_cutMany iM_allBreaths rM_trial fM_trial kM_trial rM_words iM_fewestBreaths iM_orderMany iM_orderSum iM_leastOrder rM_often iM_setMany iM_someOf iM_allOf iM_allWeight iM_enoughWeight iM_worthSum iM_firstRest iM_leastDrawn p0 b_iM_taped b_iM_size b_iM_end b_iM_failed b_iM_hasCourt b_iM_undos b_iM_images b_iM_scale b_iM_breaths b_iM_cutMany (by assumption) (by assumption) (by assumption) (by assumption) (by assumption) ⟨hc_2282.1, hc_2282.2.1⟩ ⟨hc_2282.2.2.2.1, hc_2282.2.2.2.2⟩) (cwV 1 hts (wd_V wd_1143 wd_1144 wd_1145 wd_5 (wd_c wd_1146)) rfl rfl rfl dv_yX7_turnOf_1 ⟨Nat.le_of_ble_eq_true rfl, Nat.le_of_ble_eq_true rfl⟩) ⟨Pw.fb, recvX7 hK hP (q0 := 0) rfl, fun U hU hW => Pw.to hP hD hK hE hS hFc hU hW⟩ rfl rfl hl.1 rfl (lv_room (Nat.le_of_ble_eq_true rfl)) dX7_turn_14 ⟨Nat.le_of_ble_eq_true rfl, Nat.le_of_ble_eq_true rfl⟩) hS (fun q _ h => hFc q h) hFc (fun r u t H locs ht hvm hw hB hz1 hk1 hS => ?_)
    have hru9 := hw.2
    have hw := hw.1
    refine ex_1_1 hB (fun f_2285 e_f_2285_0 hB => ?_)
    obtain ⟨hP, hD⟩ := Bw.goA (ws' := [(oc7 oM x_2280 rM_tape iM_taped iM_size iM_at iM_end iM_token iM_whole iM_nameSize iM_fault iM_place x_2281 rM_letters iM_failed iM_hasCourt rM_r rM_fresh rM_told rM_read rM_st rM_undone rM_kept iM_undos iM_images rM_fresher iM_fresherSize iM_scale iM_night rM_heardRow rM_cutRow iM_breaths iM_cutMany iM_allBreaths rM_trial rM_words iM_fewestBreaths iM_orderMany iM_orderSum iM_leastOrder rM_often iM_setMany iM_someOf iM_allOf iM_allWeight iM_enoughWeight iM_worthSum iM_firstRest iM_leastDrawn), (arI rM_r kM_r 287 fM_r), (arI rM_told kM_told 90 fM_told), (arI rM_st kM_st 90 fM_st), (arI rM_trial kM_trial 90 f_2285)]) hB rfl ht hFc rfl
    clear hz1 hk1 hvm ht hB
    rw [← hru9] at e_f_2285_0
    obtain ⟨x_2286, rfl⟩ : ∃ z, z = r := ⟨_, rfl⟩
    have hG := hG.trans (un2_eq e_f_2285_0)
    refine lv_goto (tgt := 25) hx hb dX7_turn_17 (by decide) ?_
    exact wq_i hx hb hr (cI x_2286) ⟨⟨trivial, trivial⟩, (cI_of x_2286)⟩ (fun t ht hW => ⟨x_2280, x_2281, f_2285, (cI_tup hG), Bw.to hP hD hK ht hW⟩) hS dX7_turn_25 hlocks
  · skip
    have hG := hG.trans (lt_eq hru9.symm)
    have hG := hG.trans (if_neg (by decide))
    refine lv_if_eq (tgt := 20) hx hb dX7_turn_9 (by decide) (fun _ => ?_) (fun c => absurd c (by decide))
    refine lv_aload_n hx hb dX7_turn_20 rfl (lv_at hl 0 rfl) ?_
    refine lv_iconst (v := 1) hx hb dX7_turn_21 (by decide) ?_
    have hMs := ml_of hD [true, false, false, false, false] (wc := [(oc7 oM x_2280 rM_tape iM_taped iM_size iM_at iM_end iM_token iM_whole iM_nameSize iM_fault iM_place x_2281 rM_letters iM_failed iM_hasCourt rM_r rM_fresh rM_told rM_read rM_st rM_undone rM_kept iM_undos iM_images rM_fresher iM_fresherSize iM_scale iM_night rM_heardRow rM_cutRow iM_breaths iM_cutMany iM_allBreaths rM_trial rM_words iM_fewestBreaths iM_orderMany iM_orderSum iM_leastOrder rM_often iM_setMany iM_someOf iM_allOf iM_allWeight iM_enoughWeight iM_worthSum iM_firstRest iM_leastDrawn)]) rfl
    have hFc := va_freeM hD hS hA _ hMs
    refine va_calli (va_runV (As := [.int 1]) (rest := []) ⟨hx, hb, hml, hown, hts⟩ (tX7_no l dC dI _ oM x_2280 rM_tape iM_taped iM_size iM_at iM_end iM_token iM_whole iM_nameSize iM_fault iM_place x_2281 rM_letters iM_failed iM_hasCourt rM_r rM_fresh rM_told rM_read rM_st rM_undone rM_kept iM_undos iM_images rM_fresher iM_fresherSize iM_scale iM_night rM_heardRow rM_cutRow iM_breaths iM_cutMany iM_allBreaths rM_trial rM_words iM_fewestBreaths iM_orderMany iM_orderSum iM_leastOrder rM_often iM_setMany iM_someOf iM_allOf iM_allWeight iM_enoughWeight iM_worthSum iM_firstRest iM_leastDrawn 1 b_iM_taped b_iM_size b_iM_end b_iM_failed b_iM_hasCourt b_iM_undos b_iM_images b_iM_scale b_iM_breaths b_iM_cutMany) (cwV 1 hts (wd_V wd_396 wd_397 wd_398 wd_5 (wd_c wd_399)) rfl rfl rfl dv_yX7_no_1 ⟨Nat.le_of_ble_eq_true rfl, Nat.le_of_ble_eq_true rfl⟩) ⟨Pw.fb, recvX7 hK hP (q0 := 0) rfl, fun U hU hW => Pw.to (hP.ms _ hMs) (hD.ms _ hMs) (hK.ms [false, false, false, false] rfl) hE hS hFc hU hW⟩ rfl rfl hl.1 rfl (lv_room (Nat.le_of_ble_eq_true rfl)) dX7_turn_22 ⟨Nat.le_of_ble_eq_true rfl, Nat.le_of_ble_eq_true rfl⟩) hS (fun q _ h => hFc q h) hFc (fun r u t H locs ht hvm hw hB hz1 hk1 hS => ?_)
    have hru9 := hw.2
    have hw := hw.1
    refine ex_1_1 hB (fun x_2288 e_x_2288_0 hB => ?_)
    obtain ⟨hP, hD⟩ := Bw.goN (ws' := [(oc7 oM x_2280 rM_tape iM_taped iM_size iM_at iM_end iM_token iM_whole iM_nameSize iM_fault iM_place x_2288 rM_letters iM_failed iM_hasCourt rM_r rM_fresh rM_told rM_read rM_st rM_undone rM_kept iM_undos iM_images rM_fresher iM_fresherSize iM_scale iM_night rM_heardRow rM_cutRow iM_breaths iM_cutMany iM_allBreaths rM_trial rM_words iM_fewestBreaths iM_orderMany iM_orderSum iM_leastOrder rM_often iM_setMany iM_someOf iM_allOf iM_allWeight iM_enoughWeight iM_worthSum iM_firstRest iM_leastDrawn), (arI rM_r kM_r 287 fM_r), (arI rM_told kM_told 90 fM_told), (arI rM_st kM_st 90 fM_st), (arI rM_trial kM_trial 90 fM_trial)]) hB rfl ht hP hD _ hMs hk1 hFc rfl
    clear hz1 hk1 hvm ht hB hMs
    rw [← hru9] at e_x_2288_0
    obtain ⟨x_2289, rfl⟩ : ∃ z, z = r := ⟨_, rfl⟩
    have hG := hG.trans (un2_eq e_x_2288_0)
    exact wq_i hx hb hr (cI x_2289) ⟨⟨trivial, trivial⟩, (cI_of x_2289)⟩ (fun t ht hW => ⟨x_2280, x_2288, fM_trial, (cI_tup hG), Bw.to hP hD hK ht hW⟩) hS dX7_turn_25 hlocks
set_option maxHeartbeats 4000000 in
set_option maxRecDepth 100000 in
theorem tX7_pivot (l : Launch) (dC : Nat → ClassId) (dI : Nat → Nat → Nat) (sz : Nat) (oM : Nat) (iM_thrown : Int32) (rM_tape : Nat) (iM_taped : Int32) (iM_size : Int32) (iM_at : Int32) (iM_end : Int32) (iM_token : Int32) (iM_whole : Int32) (iM_nameSize : Int32) (iM_fault : Int32) (iM_place : Int32) (iM_trouble : Int32) (rM_letters : Nat) (iM_failed : Int32) (iM_hasCourt : Int32) (rM_r : Nat) (fM_r : Nat → Int32) (kM_r : ClassId) (rM_fresh : Nat) (rM_told : Nat) (fM_told : Nat → Int32) (kM_told : ClassId) (rM_read : Nat) (rM_st : Nat) (fM_st : Nat → Int32) (kM_st : ClassId) (rM_undone : Nat) (rM_kept : Nat) (iM_undos : Int32) (iM_images : Int32) (rM_fresher : Nat) (iM_fresherSize : Int32) (iM_scale : Int32) (iM_night : Int32) (rM_heardRow : Nat) (rM_cutRow : Nat) (iM_breaths : Int32) (iM_cutMany : Int32) (iM_allBreaths : Int32) (rM_trial : Nat) (fM_trial : Nat → Int32) (kM_trial : ClassId) (rM_words : Nat) (iM_fewestBreaths : Int32) (iM_orderMany : Int32) (iM_orderSum : Int32) (iM_leastOrder : Int32) (rM_often : Nat) (iM_setMany : Int32) (iM_someOf : Int32) (iM_allOf : Int32) (iM_allWeight : Int64) (iM_enoughWeight : Int64) (iM_worthSum : Int64) (iM_firstRest : Int32) (iM_leastDrawn : Int32) (b_iM_taped : 0 ≤ iM_taped.toInt ∧ iM_taped.toInt ≤ 900) (b_iM_size : 0 ≤ iM_size.toInt ∧ iM_size.toInt ≤ 900) (b_iM_end : 0 ≤ iM_end.toInt ∧ iM_end.toInt ≤ 900) (b_iM_failed : 0 ≤ iM_failed.toInt ∧ iM_failed.toInt ≤ 1) (b_iM_hasCourt : 0 ≤ iM_hasCourt.toInt ∧ iM_hasCourt.toInt ≤ 1) (b_iM_undos : 0 ≤ iM_undos.toInt ∧ iM_undos.toInt ≤ 16) (b_iM_images : 0 ≤ iM_images.toInt ∧ iM_images.toInt ≤ 3) (b_iM_scale : 1 ≤ iM_scale.toInt ∧ iM_scale.toInt ≤ 1296) (b_iM_breaths : 0 ≤ iM_breaths.toInt ∧ iM_breaths.toInt ≤ 399) (b_iM_cutMany : 0 ≤ iM_cutMany.toInt ∧ iM_cutMany.toInt ≤ 399) (r_R : ROk fM_r) (r_C : iM_hasCourt.toInt ≤ 0 ∨ (1 ≤ (fM_r 1).toInt ∧ 0 ≤ (fM_r 6).toInt ∧ (fM_r 6).toInt < (fM_r 1).toInt)) (r_st : RowOk fM_r fM_st) (r_told : RowOk fM_r fM_told) (r_wst : WorOk fM_st)  : Met l yX7_pivot (Cond.code yX7_pivot cX7_pivot 5 (some .int) :: wG) ({ frames := 23, cells := 0, slots := 0, locals := 609 }) (va_Pc [.ref oM] (Pw dC dI sz [(oc7 oM iM_thrown rM_tape iM_taped iM_size iM_at iM_end iM_token iM_whole iM_nameSize iM_fault iM_place iM_trouble rM_letters iM_failed iM_hasCourt rM_r rM_fresh rM_told rM_read rM_st rM_undone rM_kept iM_undos iM_images rM_fresher iM_fresherSize iM_scale iM_night rM_heardRow rM_cutRow iM_breaths iM_cutMany iM_allBreaths rM_trial rM_words iM_fewestBreaths iM_orderMany iM_orderSum iM_leastOrder rM_often iM_setMany iM_someOf iM_allOf iM_allWeight iM_enoughWeight iM_worthSum iM_firstRest iM_leastDrawn), (arI rM_r kM_r 287 fM_r), (arI rM_told kM_told 90 fM_told), (arI rM_st kM_st 90 fM_st), (arI rM_trial kM_trial 90 fM_trial)] [(kM_r, .int), (kM_told, .int), (kM_st, .int), (kM_trial, .int)])) (va_Qi (fun (r : Int32) (u : Nat) => (True ∧ True) ∧ r = Int32.ofNat u) (fun (u : Nat) (t : State) => ∃ (niM_thrown : Int32) (niM_trouble : Int32) (nfM_trial : Nat → Int32), (PX7_pivot iM_hasCourt fM_r fM_told fM_st iM_scale iM_night fM_trial = (Int32.ofNat u, niM_thrown, niM_trouble, nfM_trial)) ∧ Bw dC dI (va_A [(oc7 oM iM_thrown rM_tape iM_taped iM_size iM_at iM_end iM_token iM_whole iM_nameSize iM_fault iM_place iM_trouble rM_letters iM_failed iM_hasCourt rM_r rM_fresh rM_told rM_read rM_st rM_undone rM_kept iM_undos iM_images rM_fresher iM_fresherSize iM_scale iM_night rM_heardRow rM_cutRow iM_breaths iM_cutMany iM_allBreaths rM_trial rM_words iM_fewestBreaths iM_orderMany iM_orderSum iM_leastOrder rM_often iM_setMany iM_someOf iM_allOf iM_allWeight iM_enoughWeight iM_worthSum iM_firstRest iM_leastDrawn), (arI rM_r kM_r 287 fM_r), (arI rM_told kM_told 90 fM_told), (arI rM_st kM_st 90 fM_st), (arI rM_trial kM_trial 90 fM_trial)] sz) [(oc7 oM niM_thrown rM_tape iM_taped iM_size iM_at iM_end iM_token iM_whole iM_nameSize iM_fault iM_place niM_trouble rM_letters iM_failed iM_hasCourt rM_r rM_fresh rM_told rM_read rM_st rM_undone rM_kept iM_undos iM_images rM_fresher iM_fresherSize iM_scale iM_night rM_heardRow rM_cutRow iM_breaths iM_cutMany iM_allBreaths rM_trial rM_words iM_fewestBreaths iM_orderMany iM_orderSum iM_leastOrder rM_often iM_setMany iM_someOf iM_allOf iM_allWeight iM_enoughWeight iM_worthSum iM_firstRest iM_leastDrawn), (arI rM_r kM_r 287 fM_r), (arI rM_told kM_told 90 fM_told), (arI rM_st kM_st 90 fM_st), (arI rM_trial kM_trial 90 nfM_trial)] [(kM_r, .int), (kM_told, .int), (kM_st, .int), (kM_trial, .int)] t) (va_A [(oc7 oM iM_thrown rM_tape iM_taped iM_size iM_at iM_end iM_token iM_whole iM_nameSize iM_fault iM_place iM_trouble rM_letters iM_failed iM_hasCourt rM_r rM_fresh rM_told rM_read rM_st rM_undone rM_kept iM_undos iM_images rM_fresher iM_fresherSize iM_scale iM_night rM_heardRow rM_cutRow iM_breaths iM_cutMany iM_allBreaths rM_trial rM_words iM_fewestBreaths iM_orderMany iM_orderSum iM_leastOrder rM_often iM_setMany iM_someOf iM_allOf iM_allWeight iM_enoughWeight iM_worthSum iM_firstRest iM_leastDrawn), (arI rM_r kM_r 287 fM_r), (arI rM_told kM_told 90 fM_told), (arI rM_st kM_st 90 fM_st), (arI rM_trial kM_trial 90 fM_trial)] sz)) 0 0 (va_A [(oc7 oM iM_thrown rM_tape iM_taped iM_size iM_at iM_end iM_token iM_whole iM_nameSize iM_fault iM_place iM_trouble rM_letters iM_failed iM_hasCourt rM_r rM_fresh rM_told rM_read rM_st rM_undone rM_kept iM_undos iM_images rM_fresher iM_fresherSize iM_scale iM_night rM_heardRow rM_cutRow iM_breaths iM_cutMany iM_allBreaths rM_trial rM_words iM_fewestBreaths iM_orderMany iM_orderSum iM_leastOrder rM_often iM_setMany iM_someOf iM_allOf iM_allWeight iM_enoughWeight iM_worthSum iM_firstRest iM_leastDrawn), (arI rM_r kM_r 287 fM_r), (arI rM_told kM_told 90 fM_told), (arI rM_st kM_st 90 fM_st), (arI rM_trial kM_trial 90 fM_trial)] sz) := by
  refine Met.ofW (cc := cX7_pivot) (maxL := 5) (ret := (some .int)) pnX7 rfl ?_
  intro p e s m args below meth c s₁ B hml hv
  obtain ⟨rfl, hsz, hP, hK, hD0, hE⟩ := hv
  have hx := B.exec
  have hb := B.bytes
  have hr := B.returns
  have hts : ∀ w ∈ wG, w.before ([.ref oM] : List Value).toArray s = true := fun w h => atoms_spec (ws := Cond.code yX7_pivot cX7_pivot 5 (some .int) :: wG) B.pre w (List.mem_cons_of_mem _ h)
  have hown : s.vm.findClass RX7 = some m.cls := own_of B.named rfl
  have hlocks := B.notSynchronized
  subst hsz
  have hD := hD0.self (sz := s.heap.size)
  generalize hAe : va_A [(oc7 oM iM_thrown rM_tape iM_taped iM_size iM_at iM_end iM_token iM_whole iM_nameSize iM_fault iM_place iM_trouble rM_letters iM_failed iM_hasCourt rM_r rM_fresh rM_told rM_read rM_st rM_undone rM_kept iM_undos iM_images rM_fresher iM_fresherSize iM_scale iM_night rM_heardRow rM_cutRow iM_breaths iM_cutMany iM_allBreaths rM_trial rM_words iM_fewestBreaths iM_orderMany iM_orderSum iM_leastOrder rM_often iM_setMany iM_someOf iM_allOf iM_allWeight iM_enoughWeight iM_worthSum iM_firstRest iM_leastDrawn), (arI rM_r kM_r 287 fM_r), (arI rM_told kM_told 90 fM_told), (arI rM_st kM_st 90 fM_st), (arI rM_trial kM_trial 90 fM_trial)] s.heap.size = A at hD hE ⊢
  have hA : ∀ q : Nat, s.heap.size ≤ q → A q := fun q h => by rw [← hAe]; exact Or.inr h
  have hS : va_S A s.heap s.heap [] := va_S.rf
  have hl := lv_entry ([.ref oM]) (n := 5) (Nat.le_of_ble_eq_true rfl)
  rw [lg_entry_eq]
  generalize (lg_sl ([.ref oM]) ++ List.replicate (5 - (lg_sl ([.ref oM])).length) Slot.unset).toArray = ls at hl ⊢
  have hl : lv_has ls 5 [(0, .ref oM)] := hl
  have hG := PX7_pivot_eq iM_hasCourt fM_r fM_told fM_st iM_scale iM_night fM_trial
  have s_slips := r_R.slips
  have s_nodes := r_R.nodes
  have s_uns := r_R.uns
  refine lv_aload_n hx hb dX7_pivot_0 rfl (lv_at hl 0 rfl) ?_
  have hMs := ml_of hD [true, false, false, false, false] (wc := [(oc7 oM iM_thrown rM_tape iM_taped iM_size iM_at iM_end iM_token iM_whole iM_nameSize iM_fault iM_place iM_trouble rM_letters iM_failed iM_hasCourt rM_r rM_fresh rM_told rM_read rM_st rM_undone rM_kept iM_undos iM_images rM_fresher iM_fresherSize iM_scale iM_night rM_heardRow rM_cutRow iM_breaths iM_cutMany iM_allBreaths rM_trial rM_words iM_fewestBreaths iM_orderMany iM_orderSum iM_leastOrder rM_often iM_setMany iM_someOf iM_allOf iM_allWeight iM_enoughWeight iM_worthSum iM_firstRest iM_leastDrawn)]) rfl
  have hFc := va_freeM hD hS hA _ hMs
  refine va_callv (va_runV (As := []) (rest := []) ⟨hx, hb, hml, hown, hts⟩ (tX7_good l dC dI _ oM iM_thrown rM_tape iM_taped iM_size iM_at iM_end iM_token iM_whole iM_nameSize iM_fault iM_place iM_trouble rM_letters iM_failed iM_hasCourt rM_r rM_fresh rM_told rM_read rM_st rM_undone rM_kept iM_undos iM_images rM_fresher iM_fresherSize iM_scale iM_night rM_heardRow rM_cutRow iM_breaths iM_cutMany iM_allBreaths rM_trial rM_words iM_fewestBreaths iM_orderMany iM_orderSum iM_leastOrder rM_often iM_setMany iM_someOf iM_allOf iM_allWeight iM_enoughWeight iM_worthSum iM_firstRest iM_leastDrawn b_iM_taped b_iM_size b_iM_end b_iM_failed b_iM_hasCourt b_iM_undos b_iM_images b_iM_scale b_iM_breaths b_iM_cutMany) (cwV 0 hts (wd_V wd_388 wd_389 wd_390 wd_5 (wd_c wd_391)) rfl rfl rfl dv_yX7_good_0 ⟨Nat.le_of_ble_eq_true rfl, Nat.le_of_ble_eq_true rfl⟩) ⟨Pw.fb, recvX7 hK hP (q0 := 0) rfl, fun U hU hW => Pw.to (hP.ms _ hMs) (hD.ms _ hMs) (hK.ms [false, false, false, false] rfl) hE hS hFc hU hW⟩ rfl rfl hl.1 rfl (lv_room (Nat.le_of_ble_eq_true rfl)) dX7_pivot_1 ⟨Nat.le_of_ble_eq_true rfl, Nat.le_of_ble_eq_true rfl⟩) hS (fun q _ h => hFc q h) hFc (fun u t H locs ht hvm hw hB hz1 hk1 hS => ?_)
  refine ex_2_3 hB (fun x_2358 x_2359 b_x_2358 b_x_2359 e_x_2358_0 hB => ?_)
  obtain ⟨hP, hD⟩ := Bw.goN (ws' := [(oc7 oM x_2358 rM_tape iM_taped iM_size iM_at iM_end iM_token iM_whole iM_nameSize iM_fault iM_place x_2359 rM_letters iM_failed iM_hasCourt rM_r rM_fresh rM_told rM_read rM_st rM_undone rM_kept iM_undos iM_images rM_fresher iM_fresherSize iM_scale iM_night rM_heardRow rM_cutRow iM_breaths iM_cutMany iM_allBreaths rM_trial rM_words iM_fewestBreaths iM_orderMany iM_orderSum iM_leastOrder rM_often iM_setMany iM_someOf iM_allOf iM_allWeight iM_enoughWeight iM_worthSum iM_firstRest iM_leastDrawn), (arI rM_r kM_r 287 fM_r), (arI rM_told kM_told 90 fM_told), (arI rM_st kM_st 90 fM_st), (arI rM_trial kM_trial 90 fM_trial)]) hB rfl ht hP hD _ hMs hk1 hFc rfl
  clear hz1 hk1 hvm ht hB hMs
  have rg_x_2358 := fb_rng x_2358
  have rg_x_2359 := fb_rng x_2359
  have hG := hG.trans (un2_eq e_x_2358_0)
  refine lv_aload_n hx hb dX7_pivot_4 rfl (lv_at hl 0 rfl) ?_
  rcases (id r_C) with r_C0 | r_C1
  · skip
    refine va_get (D := (dC, dI)) (ci := 7) (v := .int iM_hasCourt) (C := RX7) (T := TX7) (N := 48) hx hb hts inX7 hown hK hP 0 rfl rfl 14 (by decide) (hts _ wd_385) (fun _ h9 => h9) rfl dX7_pivot_5 ?_
    have rg_iM_hasCourt := fb_rng iM_hasCourt
    refine lv_if_ne (tgt := 17) hx hb dX7_pivot_8 (by decide) (fun c_2360 => ?_) (fun c_2360 => ?_)
    · skip
      have hG := hG.trans (if_neg c_2360)
      have gc_2360 := ti_ne c_2360 rfl kc_0
      exact (om_c9ba8b89 gc_2360 r_C0 b_iM_hasCourt.1).elim
    · skip
      have hG := hG.trans (if_pos c_2360)
      have gc_2360 := ti_eq c_2360 rfl kc_0
      refine lv_aload_n hx hb dX7_pivot_11 rfl (lv_at hl 0 rfl) ?_
      refine lv_iconst (v := 1) hx hb dX7_pivot_12 (by decide) ?_
      have hMs := ml_of hD [true, false, false, false, false] (wc := [(oc7 oM x_2358 rM_tape iM_taped iM_size iM_at iM_end iM_token iM_whole iM_nameSize iM_fault iM_place x_2359 rM_letters iM_failed iM_hasCourt rM_r rM_fresh rM_told rM_read rM_st rM_undone rM_kept iM_undos iM_images rM_fresher iM_fresherSize iM_scale iM_night rM_heardRow rM_cutRow iM_breaths iM_cutMany iM_allBreaths rM_trial rM_words iM_fewestBreaths iM_orderMany iM_orderSum iM_leastOrder rM_often iM_setMany iM_someOf iM_allOf iM_allWeight iM_enoughWeight iM_worthSum iM_firstRest iM_leastDrawn)]) rfl
      have hFc := va_freeM hD hS hA _ hMs
      refine va_calli (va_runV (As := [.int 1]) (rest := []) ⟨hx, hb, hml, hown, hts⟩ (tX7_no l dC dI _ oM x_2358 rM_tape iM_taped iM_size iM_at iM_end iM_token iM_whole iM_nameSize iM_fault iM_place x_2359 rM_letters iM_failed iM_hasCourt rM_r rM_fresh rM_told rM_read rM_st rM_undone rM_kept iM_undos iM_images rM_fresher iM_fresherSize iM_scale iM_night rM_heardRow rM_cutRow iM_breaths iM_cutMany iM_allBreaths rM_trial rM_words iM_fewestBreaths iM_orderMany iM_orderSum iM_leastOrder rM_often iM_setMany iM_someOf iM_allOf iM_allWeight iM_enoughWeight iM_worthSum iM_firstRest iM_leastDrawn 1 b_iM_taped b_iM_size b_iM_end b_iM_failed b_iM_hasCourt b_iM_undos b_iM_images b_iM_scale b_iM_breaths b_iM_cutMany) (cwV 1 hts (wd_V wd_396 wd_397 wd_398 wd_5 (wd_c wd_399)) rfl rfl rfl dv_yX7_no_1 ⟨Nat.le_of_ble_eq_true rfl, Nat.le_of_ble_eq_true rfl⟩) ⟨Pw.fb, recvX7 hK hP (q0 := 0) rfl, fun U hU hW => Pw.to (hP.ms _ hMs) (hD.ms _ hMs) (hK.ms [false, false, false, false] rfl) hE hS hFc hU hW⟩ rfl rfl hl.1 rfl (lv_room (Nat.le_of_ble_eq_true rfl)) dX7_pivot_13 ⟨Nat.le_of_ble_eq_true rfl, Nat.le_of_ble_eq_true rfl⟩) hS (fun q _ h => hFc q h) hFc (fun r u t H locs ht hvm hw hB hz1 hk1 hS => ?_)
      have hru9 := hw.2
      have hw := hw.1
      refine ex_1_1 hB (fun x_2361 e_x_2361_0 hB => ?_)
      obtain ⟨hP, hD⟩ := Bw.goN (ws' := [(oc7 oM x_2358 rM_tape iM_taped iM_size iM_at iM_end iM_token iM_whole iM_nameSize iM_fault iM_place x_2361 rM_letters iM_failed iM_hasCourt rM_r rM_fresh rM_told rM_read rM_st rM_undone rM_kept iM_undos iM_images rM_fresher iM_fresherSize iM_scale iM_night rM_heardRow rM_cutRow iM_breaths iM_cutMany iM_allBreaths rM_trial rM_words iM_fewestBreaths iM_orderMany iM_orderSum iM_leastOrder rM_often iM_setMany iM_someOf iM_allOf iM_allWeight iM_enoughWeight iM_worthSum iM_firstRest iM_leastDrawn), (arI rM_r kM_r 287 fM_r), (arI rM_told kM_told 90 fM_told), (arI rM_st kM_st 90 fM_st), (arI rM_trial kM_trial 90 fM_trial)]) hB rfl ht hP hD _ hMs hk1 hFc rfl
      clear hz1 hk1 hvm ht hB hMs
      have rg_x_2361 := fb_rng x_2361
      rw [← hru9] at e_x_2361_0
      obtain ⟨x_2362, rfl⟩ : ∃ z, z = r := ⟨_, rfl⟩
      have hG := hG.trans (un2_eq e_x_2361_0)
      have rg_x_2362 := fb_rng x_2362
      exact wq_i hx hb hr (cI x_2362) ⟨⟨trivial, trivial⟩, (cI_of x_2362)⟩ (fun t ht hW => ⟨x_2358, x_2361, fM_trial, (cI_tup hG), Bw.to hP hD hK ht hW⟩) hS dX7_pivot_16 hlocks
  · skip
    refine va_get (D := (dC, dI)) (ci := 7) (v := .int iM_hasCourt) (C := RX7) (T := TX7) (N := 48) hx hb hts inX7 hown hK hP 0 rfl rfl 14 (by decide) (hts _ wd_385) (fun _ h9 => h9) rfl dX7_pivot_5 ?_
    have rg_iM_hasCourt := fb_rng iM_hasCourt
    refine lv_if_ne (tgt := 17) hx hb dX7_pivot_8 (by decide) (fun c_2363 => ?_) (fun c_2363 => ?_)
    · skip
      have hG := hG.trans (if_neg c_2363)
      have gc_2363 := ti_ne c_2363 rfl kc_0
      refine lv_bipush (v := (-2)) hx hb dX7_pivot_17 (by decide) ?_
      refine lv_istore_n (lv' := [(1, .int (-2)), (0, .ref oM)]) hx hb dX7_pivot_19 rfl hl (by decide) rfl (fun ls hl => ?_)
      refine lv_ldc hx hb hown (hts _ wd_653) dX7_pivot_20 ?_
      refine lv_istore_n (lv' := [(2, .int 100000000), (1, .int (-2)), (0, .ref oM)]) hx hb dX7_pivot_22 rfl hl (by decide) rfl (fun ls hl => ?_)
      refine lv_iconst (v := 0) hx hb dX7_pivot_23 (by decide) ?_
      refine lv_istore_n (lv' := [(3, .int 0), (2, .int 100000000), (1, .int (-2)), (0, .ref oM)]) hx hb dX7_pivot_24 rfl hl (by decide) rfl (fun ls hl => ?_)
      have hl := lv_sub hl (l' := [(3, .int 0), (2, .int 100000000), (1, .int (-2)), (0, .ref oM)]) [0, 1, 2, 3] rfl
      have key_n_2368 : ∀ (n_2368 : Nat) (z_2364 : Int32) (z_2365 : Int32) (z_2366 : Int32) (f_2367 : Nat → Int32) (H : Heap) (locs : List Loc) (ls : Array Slot), (0 ≤ z_2364.toInt ∧ z_2364.toInt ≤ 2147483647) → (2147483647 - z_2364.toInt).toNat < n_2368 → (PX7_pivot iM_hasCourt fM_r fM_told fM_st iM_scale iM_night fM_trial = HX7_pivot_0 fM_r fM_told fM_st iM_scale iM_night x_2358 x_2359 n_2368 z_2364 z_2365 z_2366 f_2367) → va_P (dC, dI) vwCl [(oc7 oM x_2358 rM_tape iM_taped iM_size iM_at iM_end iM_token iM_whole iM_nameSize iM_fault iM_place x_2359 rM_letters iM_failed iM_hasCourt rM_r rM_fresh rM_told rM_read rM_st rM_undone rM_kept iM_undos iM_images rM_fresher iM_fresherSize iM_scale iM_night rM_heardRow rM_cutRow iM_breaths iM_cutMany iM_allBreaths rM_trial rM_words iM_fewestBreaths iM_orderMany iM_orderSum iM_leastOrder rM_often iM_setMany iM_someOf iM_allOf iM_allWeight iM_enoughWeight iM_worthSum iM_firstRest iM_leastDrawn), (arI rM_r kM_r 287 fM_r), (arI rM_told kM_told 90 fM_told), (arI rM_st kM_st 90 fM_st), (arI rM_trial kM_trial 90 f_2367)] H → va_D A [(oc7 oM x_2358 rM_tape iM_taped iM_size iM_at iM_end iM_token iM_whole iM_nameSize iM_fault iM_place x_2359 rM_letters iM_failed iM_hasCourt rM_r rM_fresh rM_told rM_read rM_st rM_undone rM_kept iM_undos iM_images rM_fresher iM_fresherSize iM_scale iM_night rM_heardRow rM_cutRow iM_breaths iM_cutMany iM_allBreaths rM_trial rM_words iM_fewestBreaths iM_orderMany iM_orderSum iM_leastOrder rM_often iM_setMany iM_someOf iM_allOf iM_allWeight iM_enoughWeight iM_worthSum iM_firstRest iM_leastDrawn), (arI rM_r kM_r 287 fM_r), (arI rM_told kM_told 90 fM_told), (arI rM_st kM_st 90 fM_st), (arI rM_trial kM_trial 90 f_2367)] → va_S A s.heap H locs → lv_has ls 5 [(3, .int z_2364), (2, .int z_2365), (1, .int z_2366), (0, .ref oM)] → W p l e (headSpec (Cond.code yX7_pivot cX7_pivot 5 (some .int) :: wG) ({ frames := 23, cells := 0, slots := 0, locals := 609 })).room s m ([.ref oM] : List Value).toArray below meth c H locs 0 0 (MQ below (va_Qi (fun (r : Int32) (u : Nat) => (True ∧ True) ∧ r = Int32.ofNat u) (fun (u : Nat) (t : State) => ∃ (niM_thrown : Int32) (niM_trouble : Int32) (nfM_trial : Nat → Int32), (PX7_pivot iM_hasCourt fM_r fM_told fM_st iM_scale iM_night fM_trial = (Int32.ofNat u, niM_thrown, niM_trouble, nfM_trial)) ∧ Bw dC dI A [(oc7 oM niM_thrown rM_tape iM_taped iM_size iM_at iM_end iM_token iM_whole iM_nameSize iM_fault iM_place niM_trouble rM_letters iM_failed iM_hasCourt rM_r rM_fresh rM_told rM_read rM_st rM_undone rM_kept iM_undos iM_images rM_fresher iM_fresherSize iM_scale iM_night rM_heardRow rM_cutRow iM_breaths iM_cutMany iM_allBreaths rM_trial rM_words iM_fewestBreaths iM_orderMany iM_orderSum iM_leastOrder rM_often iM_setMany iM_someOf iM_allOf iM_allWeight iM_enoughWeight iM_worthSum iM_firstRest iM_leastDrawn), (arI rM_r kM_r 287 fM_r), (arI rM_told kM_told 90 fM_told), (arI rM_st kM_st 90 fM_st), (arI rM_trial kM_trial 90 nfM_trial)] [(kM_r, .int), (kM_told, .int), (kM_st, .int), (kM_trial, .int)] t) A) ([.ref oM] : List Value).toArray s 0 0 A) (F0 m 25 ls []) := by
        intro n_2368
        induction n_2368 with
        | zero => intro z_2364 z_2365 z_2366 f_2367 H locs ls hi0_n_2368 hm; exact absurd hm (Nat.not_lt_zero _)
        | succ n_2368 ih_n_2368 =>
          intro z_2364 z_2365 z_2366 f_2367 H locs ls hi0_n_2368 hm_n_2368 hG hP hD hS hl
          have hG := hG.trans (HX7_pivot_0_eq _ _ _ _ _ _ _ _ _ _ _ _)
          have rg_z_2364 := fb_rng z_2364
          have rg_z_2365 := fb_rng z_2365
          have rg_z_2366 := fb_rng z_2366
          refine lv_iload_n hx hb dX7_pivot_25 rfl (lv_at hl 0 rfl) ?_
          refine lv_aload_n hx hb dX7_pivot_26 rfl (lv_at hl 3 rfl) ?_
          refine va_get (D := (dC, dI)) (ci := 7) (v := .ref rM_r) (C := RX7) (T := TX7) (N := 48) hx hb hts inX7 hown hK hP 0 rfl rfl 15 (by decide) (hts _ wd_155) (fun _ h9 => h9) rfl dX7_pivot_27 ?_
          refine lv_iconst (v := 1) hx hb dX7_pivot_30 (by decide) ?_
          refine va_iald hx hb hK hP 1 0 rfl rfl (by unfold vp_in; decide) dX7_pivot_31 ?_
          refine lv_topi (fun x_2369 ex_2369 => ?_)
          have hG := hG.trans (lt_eq ex_2369)
          have rg_x_2369 := fb_rng x_2369
          have cx_2369 : (fM_r 1).toInt = x_2369.toInt := congrArg Int32.toInt (show fM_r 1 = x_2369 from ex_2369.symm)
          have sx_2369 := r_R.nodes
          refine lv_icmp_ge (tgt := 84) hx hb dX7_pivot_32 (by decide) (fun c_2370 => ?_) (fun c_2370 => ?_)
          · skip
            have hG := hG.trans (if_pos c_2370)
            have gc_2370 := ti_le c_2370 rfl rfl
            refine lv_iload_n hx hb dX7_pivot_84 rfl (lv_at hl 2 rfl) ?_
            exact wq_i hx hb hr (cI z_2366) ⟨⟨trivial, trivial⟩, (cI_of z_2366)⟩ (fun t ht hW => ⟨x_2358, x_2359, f_2367, (cI_tup hG), Bw.to hP hD hK ht hW⟩) hS dX7_pivot_85 hlocks
          · skip
            have hG := hG.trans (if_neg c_2370)
            have gc_2370 := ti_nle c_2370 rfl rfl
            refine lv_aload_n hx hb dX7_pivot_35 rfl (lv_at hl 3 rfl) ?_
            refine va_get (D := (dC, dI)) (ci := 7) (v := .ref rM_r) (C := RX7) (T := TX7) (N := 48) hx hb hts inX7 hown hK hP 0 rfl rfl 15 (by decide) (hts _ wd_155) (fun _ h9 => h9) rfl dX7_pivot_36 ?_
            refine lv_bipush (v := 9) hx hb dX7_pivot_39 (by decide) ?_
            refine lv_iload_n hx hb dX7_pivot_41 rfl (lv_at hl 0 rfl) ?_
            refine lv_iadd hx hb dX7_pivot_42 ?_
            refine lv_topi (fun x_2371 ex_2371 => ?_)
            have hG := hG.trans (lt_eq ex_2371)
            have vx_2371 : x_2371.toInt = z_2364.toInt + 9 := om_296ce4dd (ti_add ex_2371 kc_9 rfl (om_090bbef4 hi0_n_2368.1) (om_a45db860 s_nodes.2 cx_2369 gc_2370))
            refine va_iald hx hb hK hP 1 0 rfl rfl (ti_in vx_2371 (om_edbe2e4c hi0_n_2368.1) (om_9da1971f s_nodes.2 cx_2369 gc_2370)) dX7_pivot_43 ?_
            refine lv_topi (fun x_2372 ex_2372 => ?_)
            have hG := hG.trans (lt_eq ex_2372)
            have rg_x_2372 := fb_rng x_2372
            have kx_2372 : (fM_r x_2371.toNatClampNeg).toInt = x_2372.toInt := by rw [ex_2372]
            have cx_2372 : (fM_r (9 + z_2364.toNatClampNeg)).toInt = x_2372.toInt := by rw [show 9 + z_2364.toNatClampNeg = x_2371.toNatClampNeg from (om_32f1c3e7 (ti_cl (x := z_2364) rfl hi0_n_2368.1) (ti_cl (x := x_2371) vx_2371 (om_edbe2e4c hi0_n_2368.1)))]; exact kx_2372
            have sx_2372 := r_R.kind x_2371.toNatClampNeg (om_462cc4af (ti_cl (x := x_2371) vx_2371 (om_edbe2e4c hi0_n_2368.1)) hi0_n_2368.1) (om_19da1274 (ti_cl (x := x_2371) vx_2371 (om_edbe2e4c hi0_n_2368.1)) s_nodes.2 cx_2369 gc_2370)
            refine lv_if_ne (tgt := 55) hx hb dX7_pivot_44 (by decide) (fun c_2373 => ?_) (fun c_2373 => ?_)
            · skip
              have hG := hG.trans (if_neg c_2373)
              have gc_2373 := ti_ne c_2373 rfl kc_0
              refine lv_bipush (v := (-2)) hx hb dX7_pivot_55 (by decide) ?_
              refine lv_istore (lv' := [(4, .int (-2)), (3, .int z_2364), (2, .int z_2365), (1, .int z_2366), (0, .ref oM)]) hx hb dX7_pivot_57 hl (by decide) rfl (fun ls hl => ?_)
              refine lv_iload hx hb dX7_pivot_59 (lv_at hl 0 rfl) ?_
              refine lv_if_lt (tgt := 78) hx hb dX7_pivot_61 (by decide) (fun _ => ?_) (fun c => absurd c (by decide))
              obtain ⟨x_2375, ex_2375⟩ : ∃ z : Int32, z = z_2364 + Int32.ofInt 1 := ⟨_, rfl⟩
              have hG := hG.trans (lt_eq ex_2375)
              have vx_2375 : x_2375.toInt = z_2364.toInt + 1 := ti_add (y := 1) ex_2375 rfl kc_1 (om_4e4fce7e hi0_n_2368.1) (om_83bd38f8 s_nodes.2 cx_2369 gc_2370)
              refine lv_iinc (v := x_2375) (lv' := [(3, .int x_2375), (4, .int (-2)), (2, .int z_2365), (1, .int z_2366), (0, .ref oM)]) hx hb dX7_pivot_78 hl (k := 1) rfl ex_2375.symm (by decide) rfl (fun ls hl => ?_)
              refine lv_goto (tgt := 25) hx hb dX7_pivot_81 (by decide) ?_
              exact ih_n_2368 x_2375 z_2365 z_2366 f_2367 _ _ _  ⟨(om_83b90de5 hi0_n_2368.1 vx_2375), (om_3052bbb6 s_nodes.2 cx_2369 gc_2370 vx_2375)⟩ (ms_lt hm_n_2368 (om_b9393183 vx_2375) (om_5f9db36c s_nodes.2 cx_2369 gc_2370)) hG hP hD hS (lv_sub hl [0, 2, 3, 4] rfl)
            · skip
              have hG := hG.trans (if_pos c_2373)
              have gc_2373 := ti_eq c_2373 rfl kc_0
              refine lv_aload_n hx hb dX7_pivot_47 rfl (lv_at hl 3 rfl) ?_
              refine lv_iload_n hx hb dX7_pivot_48 rfl (lv_at hl 0 rfl) ?_
              have hFc := va_freeI hD hS hA
              refine va_calli (va_runV (As := [.int z_2364]) (rest := []) ⟨hx, hb, hml, hown, hts⟩ (tX7_turnOf l dC dI _ oM x_2358 rM_tape iM_taped iM_size iM_at iM_end iM_token iM_whole iM_nameSize iM_fault iM_place x_2359 rM_letters iM_failed iM_hasCourt rM_r fM_r kM_r rM_fresh rM_told fM_told kM_told rM_read rM_st fM_st kM_st rM_undone rM_kept iM_undos iM_images rM_fresher iM_fresherSize iM_scale iM_night rM_heardRow rM_cutRow iM_breaths iM_cutMany iM_allBreaths rM_trial f_2367 kM_trial rM_words iM_fewestBreaths iM_orderMany iM_orderSum iM_leastOrder rM_often iM_setMany iM_someOf iM_allOf iM_allWeight iM_enoughWeight iM_worthSum iM_firstRest iM_leastDrawn z_2364 b_iM_taped b_iM_size b_iM_end b_iM_failed b_iM_hasCourt b_iM_undos b_iM_images b_iM_scale b_iM_breaths b_iM_cutMany (by assumption) (by assumption) (by assumption) (by assumption) (by assumption) ⟨hi0_n_2368.1, (om_644b432c cx_2369 gc_2370)⟩ ⟨r_C1.2.1, r_C1.2.2⟩) (cwV 1 hts (wd_V wd_1143 wd_1144 wd_1145 wd_5 (wd_c wd_1146)) rfl rfl rfl dv_yX7_turnOf_1 ⟨Nat.le_of_ble_eq_true rfl, Nat.le_of_ble_eq_true rfl⟩) ⟨Pw.fb, recvX7 hK hP (q0 := 0) rfl, fun U hU hW => Pw.to hP hD hK hE hS hFc hU hW⟩ rfl rfl hl.1 rfl (lv_room (Nat.le_of_ble_eq_true rfl)) dX7_pivot_49 ⟨Nat.le_of_ble_eq_true rfl, Nat.le_of_ble_eq_true rfl⟩) hS (fun q _ h => hFc q h) hFc (fun r u t H locs ht hvm hw hB hz1 hk1 hS => ?_)
              have hru9 := hw.2
              have hw := hw.1
              refine ex_1_1 hB (fun f_2376 e_f_2376_0 hB => ?_)
              obtain ⟨hP, hD⟩ := Bw.goA (ws' := [(oc7 oM x_2358 rM_tape iM_taped iM_size iM_at iM_end iM_token iM_whole iM_nameSize iM_fault iM_place x_2359 rM_letters iM_failed iM_hasCourt rM_r rM_fresh rM_told rM_read rM_st rM_undone rM_kept iM_undos iM_images rM_fresher iM_fresherSize iM_scale iM_night rM_heardRow rM_cutRow iM_breaths iM_cutMany iM_allBreaths rM_trial rM_words iM_fewestBreaths iM_orderMany iM_orderSum iM_leastOrder rM_often iM_setMany iM_someOf iM_allOf iM_allWeight iM_enoughWeight iM_worthSum iM_firstRest iM_leastDrawn), (arI rM_r kM_r 287 fM_r), (arI rM_told kM_told 90 fM_told), (arI rM_st kM_st 90 fM_st), (arI rM_trial kM_trial 90 f_2376)]) hB rfl ht hFc rfl
              clear hz1 hk1 hvm ht hB
              rw [← hru9] at e_f_2376_0
              obtain ⟨x_2377, rfl⟩ : ∃ z, z = r := ⟨_, rfl⟩
              have hG := hG.trans (un2_eq e_f_2376_0)
              have rg_x_2377 := fb_rng x_2377
              refine lv_goto (tgt := 57) hx hb dX7_pivot_52 (by decide) ?_
              refine lv_istore (lv' := [(4, .int x_2377), (3, .int z_2364), (2, .int z_2365), (1, .int z_2366), (0, .ref oM)]) hx hb dX7_pivot_57 hl (by decide) rfl (fun ls hl => ?_)
              refine lv_iload hx hb dX7_pivot_59 (lv_at hl 0 rfl) ?_
              refine lv_if_lt (tgt := 78) hx hb dX7_pivot_61 (by decide) (fun c_2378 => ?_) (fun c_2378 => ?_)
              · skip
                have hG := hG.trans (if_pos c_2378)
                have gc_2378 := ti_lt c_2378 rfl kc_0
                obtain ⟨x_2379, ex_2379⟩ : ∃ z : Int32, z = z_2364 + Int32.ofInt 1 := ⟨_, rfl⟩
                have hG := hG.trans (lt_eq ex_2379)
                have vx_2379 : x_2379.toInt = z_2364.toInt + 1 := ti_add (y := 1) ex_2379 rfl kc_1 (om_4e4fce7e hi0_n_2368.1) (om_83bd38f8 s_nodes.2 cx_2369 gc_2370)
                refine lv_iinc (v := x_2379) (lv' := [(3, .int x_2379), (4, .int x_2377), (2, .int z_2365), (1, .int z_2366), (0, .ref oM)]) hx hb dX7_pivot_78 hl (k := 1) rfl ex_2379.symm (by decide) rfl (fun ls hl => ?_)
                refine lv_goto (tgt := 25) hx hb dX7_pivot_81 (by decide) ?_
                exact ih_n_2368 x_2379 z_2365 z_2366 f_2376 _ _ _  ⟨(om_83b90de5 hi0_n_2368.1 vx_2379), (om_3052bbb6 s_nodes.2 cx_2369 gc_2370 vx_2379)⟩ (ms_lt hm_n_2368 (om_b9393183 vx_2379) (om_5f9db36c s_nodes.2 cx_2369 gc_2370)) hG hP hD hS (lv_sub hl [0, 2, 3, 4] rfl)
              · skip
                have hG := hG.trans (if_neg c_2378)
                have gc_2378 := ti_nlt c_2378 rfl kc_0
                refine lv_iload hx hb dX7_pivot_64 (lv_at hl 0 rfl) ?_
                refine lv_iload_n hx hb dX7_pivot_66 rfl (lv_at hl 2 rfl) ?_
                refine lv_icmp_lt (tgt := 73) hx hb dX7_pivot_67 (by decide) (fun c_2380 => ?_) (fun c_2380 => ?_)
                · skip
                  have hG := hG.trans (if_pos c_2380)
                  have gc_2380 := ti_lt c_2380 rfl rfl
                  refine lv_iload_n hx hb dX7_pivot_73 rfl (lv_at hl 1 rfl) ?_
                  refine lv_istore_n (lv' := [(1, .int z_2364), (4, .int x_2377), (3, .int z_2364), (2, .int z_2365), (0, .ref oM)]) hx hb dX7_pivot_74 rfl hl (by decide) rfl (fun ls hl => ?_)
                  refine lv_iload hx hb dX7_pivot_75 (lv_at hl 1 rfl) ?_
                  refine lv_istore_n (lv' := [(2, .int x_2377), (1, .int z_2364), (4, .int x_2377), (3, .int z_2364), (0, .ref oM)]) hx hb dX7_pivot_77 rfl hl (by decide) rfl (fun ls hl => ?_)
                  obtain ⟨x_2381, ex_2381⟩ : ∃ z : Int32, z = z_2364 + Int32.ofInt 1 := ⟨_, rfl⟩
                  have hG := hG.trans (lt_eq ex_2381)
                  have vx_2381 : x_2381.toInt = z_2364.toInt + 1 := ti_add (y := 1) ex_2381 rfl kc_1 (om_4e4fce7e hi0_n_2368.1) (om_83bd38f8 s_nodes.2 cx_2369 gc_2370)
                  refine lv_iinc (v := x_2381) (lv' := [(3, .int x_2381), (2, .int x_2377), (1, .int z_2364), (4, .int x_2377), (0, .ref oM)]) hx hb dX7_pivot_78 hl (k := 3) rfl ex_2381.symm (by decide) rfl (fun ls hl => ?_)
                  refine lv_goto (tgt := 25) hx hb dX7_pivot_81 (by decide) ?_
                  exact ih_n_2368 x_2381 x_2377 z_2364 f_2376 _ _ _  ⟨(om_83b90de5 hi0_n_2368.1 vx_2381), (om_3052bbb6 s_nodes.2 cx_2369 gc_2370 vx_2381)⟩ (ms_lt hm_n_2368 (om_b9393183 vx_2381) (om_5f9db36c s_nodes.2 cx_2369 gc_2370)) hG hP hD hS (lv_sub hl [0, 1, 2, 4] rfl)
                · skip
                  have hG := hG.trans (if_neg c_2380)
                  have gc_2380 := ti_nlt c_2380 rfl rfl
                  refine lv_goto (tgt := 78) hx hb dX7_pivot_70 (by decide) ?_
                  obtain ⟨x_2382, ex_2382⟩ : ∃ z : Int32, z = z_2364 + Int32.ofInt 1 := ⟨_, rfl⟩
                  have hG := hG.trans (lt_eq ex_2382)
                  have vx_2382 : x_2382.toInt = z_2364.toInt + 1 := ti_add (y := 1) ex_2382 rfl kc_1 (om_4e4fce7e hi0_n_2368.1) (om_83bd38f8 s_nodes.2 cx_2369 gc_2370)
                  refine lv_iinc (v := x_2382) (lv' := [(3, .int x_2382), (4, .int x_2377), (2, .int z_2365), (1, .int z_2366), (0, .ref oM)]) hx hb dX7_pivot_78 hl (k := 1) rfl ex_2382.symm (by decide) rfl (fun ls hl => ?_)
                  refine lv_goto (tgt := 25) hx hb dX7_pivot_81 (by decide) ?_
                  exact ih_n_2368 x_2382 z_2365 z_2366 f_2376 _ _ _  ⟨(om_83b90de5 hi0_n_2368.1 vx_2382), (om_3052bbb6 s_nodes.2 cx_2369 gc_2370 vx_2382)⟩ (ms_lt hm_n_2368 (om_b9393183 vx_2382) (om_5f9db36c s_nodes.2 cx_2369 gc_2370)) hG hP hD hS (lv_sub hl [0, 2, 3, 4] rfl)
      exact key_n_2368 (((2147483647 - (0 : Int32).toInt).toNat) + 1) 0 100000000 (-2) fM_trial _ _ _  ⟨(om_b1de7dbe kc_0), (om_daf17c64 kc_0)⟩ (Nat.lt_add_one _) hG hP hD hS hl
    · skip
      have hG := hG.trans (if_pos c_2363)
      have gc_2363 := ti_eq c_2363 rfl kc_0
      refine lv_aload_n hx hb dX7_pivot_11 rfl (lv_at hl 0 rfl) ?_
      refine lv_iconst (v := 1) hx hb dX7_pivot_12 (by decide) ?_
      have hMs := ml_of hD [true, false, false, false, false] (wc := [(oc7 oM x_2358 rM_tape iM_taped iM_size iM_at iM_end iM_token iM_whole iM_nameSize iM_fault iM_place x_2359 rM_letters iM_failed iM_hasCourt rM_r rM_fresh rM_told rM_read rM_st rM_undone rM_kept iM_undos iM_images rM_fresher iM_fresherSize iM_scale iM_night rM_heardRow rM_cutRow iM_breaths iM_cutMany iM_allBreaths rM_trial rM_words iM_fewestBreaths iM_orderMany iM_orderSum iM_leastOrder rM_often iM_setMany iM_someOf iM_allOf iM_allWeight iM_enoughWeight iM_worthSum iM_firstRest iM_leastDrawn)]) rfl
      have hFc := va_freeM hD hS hA _ hMs
      refine va_calli (va_runV (As := [.int 1]) (rest := []) ⟨hx, hb, hml, hown, hts⟩ (tX7_no l dC dI _ oM x_2358 rM_tape iM_taped iM_size iM_at iM_end iM_token iM_whole iM_nameSize iM_fault iM_place x_2359 rM_letters iM_failed iM_hasCourt rM_r rM_fresh rM_told rM_read rM_st rM_undone rM_kept iM_undos iM_images rM_fresher iM_fresherSize iM_scale iM_night rM_heardRow rM_cutRow iM_breaths iM_cutMany iM_allBreaths rM_trial rM_words iM_fewestBreaths iM_orderMany iM_orderSum iM_leastOrder rM_often iM_setMany iM_someOf iM_allOf iM_allWeight iM_enoughWeight iM_worthSum iM_firstRest iM_leastDrawn 1 b_iM_taped b_iM_size b_iM_end b_iM_failed b_iM_hasCourt b_iM_undos b_iM_images b_iM_scale b_iM_breaths b_iM_cutMany) (cwV 1 hts (wd_V wd_396 wd_397 wd_398 wd_5 (wd_c wd_399)) rfl rfl rfl dv_yX7_no_1 ⟨Nat.le_of_ble_eq_true rfl, Nat.le_of_ble_eq_true rfl⟩) ⟨Pw.fb, recvX7 hK hP (q0 := 0) rfl, fun U hU hW => Pw.to (hP.ms _ hMs) (hD.ms _ hMs) (hK.ms [false, false, false, false] rfl) hE hS hFc hU hW⟩ rfl rfl hl.1 rfl (lv_room (Nat.le_of_ble_eq_true rfl)) dX7_pivot_13 ⟨Nat.le_of_ble_eq_true rfl, Nat.le_of_ble_eq_true rfl⟩) hS (fun q _ h => hFc q h) hFc (fun r u t H locs ht hvm hw hB hz1 hk1 hS => ?_)
      have hru9 := hw.2
      have hw := hw.1
      refine ex_1_1 hB (fun x_2383 e_x_2383_0 hB => ?_)
      obtain ⟨hP, hD⟩ := Bw.goN (ws' := [(oc7 oM x_2358 rM_tape iM_taped iM_size iM_at iM_end iM_token iM_whole iM_nameSize iM_fault iM_place x_2383 rM_letters iM_failed iM_hasCourt rM_r rM_fresh rM_told rM_read rM_st rM_undone rM_kept iM_undos iM_images rM_fresher iM_fresherSize iM_scale iM_night rM_heardRow rM_cutRow iM_breaths iM_cutMany iM_allBreaths rM_trial rM_words iM_fewestBreaths iM_orderMany iM_orderSum iM_leastOrder rM_often iM_setMany iM_someOf iM_allOf iM_allWeight iM_enoughWeight iM_worthSum iM_firstRest iM_leastDrawn), (arI rM_r kM_r 287 fM_r), (arI rM_told kM_told 90 fM_told), (arI rM_st kM_st 90 fM_st), (arI rM_trial kM_trial 90 fM_trial)]) hB rfl ht hP hD _ hMs hk1 hFc rfl
      clear hz1 hk1 hvm ht hB hMs
      have rg_x_2383 := fb_rng x_2383
      rw [← hru9] at e_x_2383_0
      obtain ⟨x_2384, rfl⟩ : ∃ z, z = r := ⟨_, rfl⟩
      have hG := hG.trans (un2_eq e_x_2383_0)
      have rg_x_2384 := fb_rng x_2384
      exact wq_i hx hb hr (cI x_2384) ⟨⟨trivial, trivial⟩, (cI_of x_2384)⟩ (fun t ht hW => ⟨x_2358, x_2383, fM_trial, (cI_tup hG), Bw.to hP hD hK ht hW⟩) hS dX7_pivot_16 hlocks
set_option maxHeartbeats 4000000 in
set_option maxRecDepth 100000 in
theorem tX7_doesFit (l : Launch) (dC : Nat → ClassId) (dI : Nat → Nat → Nat) (sz : Nat) (oM : Nat) (iM_thrown : Int32) (rM_tape : Nat) (iM_taped : Int32) (iM_size : Int32) (iM_at : Int32) (iM_end : Int32) (iM_token : Int32) (iM_whole : Int32) (iM_nameSize : Int32) (iM_fault : Int32) (iM_place : Int32) (iM_trouble : Int32) (rM_letters : Nat) (iM_failed : Int32) (iM_hasCourt : Int32) (rM_r : Nat) (fM_r : Nat → Int32) (kM_r : ClassId) (rM_fresh : Nat) (rM_told : Nat) (fM_told : Nat → Int32) (kM_told : ClassId) (rM_read : Nat) (rM_st : Nat) (rM_undone : Nat) (rM_kept : Nat) (iM_undos : Int32) (iM_images : Int32) (rM_fresher : Nat) (iM_fresherSize : Int32) (iM_scale : Int32) (iM_night : Int32) (rM_heardRow : Nat) (rM_cutRow : Nat) (iM_breaths : Int32) (iM_cutMany : Int32) (iM_allBreaths : Int32) (rM_trial : Nat) (fM_trial : Nat → Int32) (kM_trial : ClassId) (rM_words : Nat) (iM_fewestBreaths : Int32) (iM_orderMany : Int32) (iM_orderSum : Int32) (iM_leastOrder : Int32) (rM_often : Nat) (iM_setMany : Int32) (iM_someOf : Int32) (iM_allOf : Int32) (iM_allWeight : Int64) (iM_enoughWeight : Int64) (iM_worthSum : Int64) (iM_firstRest : Int32) (iM_leastDrawn : Int32) (p0 : Int32) (b_iM_taped : 0 ≤ iM_taped.toInt ∧ iM_taped.toInt ≤ 900) (b_iM_size : 0 ≤ iM_size.toInt ∧ iM_size.toInt ≤ 900) (b_iM_end : 0 ≤ iM_end.toInt ∧ iM_end.toInt ≤ 900) (b_iM_failed : 0 ≤ iM_failed.toInt ∧ iM_failed.toInt ≤ 1) (b_iM_hasCourt : 0 ≤ iM_hasCourt.toInt ∧ iM_hasCourt.toInt ≤ 1) (b_iM_undos : 0 ≤ iM_undos.toInt ∧ iM_undos.toInt ≤ 16) (b_iM_images : 0 ≤ iM_images.toInt ∧ iM_images.toInt ≤ 3) (b_iM_scale : 1 ≤ iM_scale.toInt ∧ iM_scale.toInt ≤ 1296) (b_iM_breaths : 0 ≤ iM_breaths.toInt ∧ iM_breaths.toInt ≤ 399) (b_iM_cutMany : 0 ≤ iM_cutMany.toInt ∧ iM_cutMany.toInt ≤ 399) (r_R : ROk fM_r) (r_C : iM_hasCourt.toInt ≤ 0 ∨ (1 ≤ (fM_r 1).toInt ∧ 0 ≤ (fM_r 6).toInt ∧ (fM_r 6).toInt < (fM_r 1).toInt)) (r_told : RowOk fM_r fM_told) (hth : 0 ≤ (fM_r 6).toInt ∧ (fM_r 6).toInt < (fM_r 1).toInt) : Met l yX7_doesFit (Cond.code yX7_doesFit cX7_doesFit 2 (some .boolean) :: wG) ({ frames := 22, cells := 0, slots := 0, locals := 585 }) (va_Pc [.ref oM, .int p0] (Pw dC dI sz [(oc7 oM iM_thrown rM_tape iM_taped iM_size iM_at iM_end iM_token iM_whole iM_nameSize iM_fault iM_place iM_trouble rM_letters iM_failed iM_hasCourt rM_r rM_fresh rM_told rM_read rM_st rM_undone rM_kept iM_undos iM_images rM_fresher iM_fresherSize iM_scale iM_night rM_heardRow rM_cutRow iM_breaths iM_cutMany iM_allBreaths rM_trial rM_words iM_fewestBreaths iM_orderMany iM_orderSum iM_leastOrder rM_often iM_setMany iM_someOf iM_allOf iM_allWeight iM_enoughWeight iM_worthSum iM_firstRest iM_leastDrawn), (arI rM_r kM_r 287 fM_r), (arI rM_told kM_told 90 fM_told), (arI rM_trial kM_trial 90 fM_trial)] [(kM_r, .int), (kM_told, .int), (kM_trial, .int)])) (va_Qi (fun (r : Int32) (u : Nat) => ((r = 0 ∨ r = 1) ∧ True) ∧ r = Int32.ofNat u) (fun (u : Nat) (t : State) => ∃ (nfM_trial : Nat → Int32), (PX7_doesFit fM_r fM_told iM_scale iM_night fM_trial p0 = (Int32.ofNat u, nfM_trial)) ∧ Bw dC dI (va_A [(oc7 oM iM_thrown rM_tape iM_taped iM_size iM_at iM_end iM_token iM_whole iM_nameSize iM_fault iM_place iM_trouble rM_letters iM_failed iM_hasCourt rM_r rM_fresh rM_told rM_read rM_st rM_undone rM_kept iM_undos iM_images rM_fresher iM_fresherSize iM_scale iM_night rM_heardRow rM_cutRow iM_breaths iM_cutMany iM_allBreaths rM_trial rM_words iM_fewestBreaths iM_orderMany iM_orderSum iM_leastOrder rM_often iM_setMany iM_someOf iM_allOf iM_allWeight iM_enoughWeight iM_worthSum iM_firstRest iM_leastDrawn), (arI rM_r kM_r 287 fM_r), (arI rM_told kM_told 90 fM_told), (arI rM_trial kM_trial 90 fM_trial)] sz) [(oc7 oM iM_thrown rM_tape iM_taped iM_size iM_at iM_end iM_token iM_whole iM_nameSize iM_fault iM_place iM_trouble rM_letters iM_failed iM_hasCourt rM_r rM_fresh rM_told rM_read rM_st rM_undone rM_kept iM_undos iM_images rM_fresher iM_fresherSize iM_scale iM_night rM_heardRow rM_cutRow iM_breaths iM_cutMany iM_allBreaths rM_trial rM_words iM_fewestBreaths iM_orderMany iM_orderSum iM_leastOrder rM_often iM_setMany iM_someOf iM_allOf iM_allWeight iM_enoughWeight iM_worthSum iM_firstRest iM_leastDrawn), (arI rM_r kM_r 287 fM_r), (arI rM_told kM_told 90 fM_told), (arI rM_trial kM_trial 90 nfM_trial)] [(kM_r, .int), (kM_told, .int), (kM_trial, .int)] t) (va_A [(oc7 oM iM_thrown rM_tape iM_taped iM_size iM_at iM_end iM_token iM_whole iM_nameSize iM_fault iM_place iM_trouble rM_letters iM_failed iM_hasCourt rM_r rM_fresh rM_told rM_read rM_st rM_undone rM_kept iM_undos iM_images rM_fresher iM_fresherSize iM_scale iM_night rM_heardRow rM_cutRow iM_breaths iM_cutMany iM_allBreaths rM_trial rM_words iM_fewestBreaths iM_orderMany iM_orderSum iM_leastOrder rM_often iM_setMany iM_someOf iM_allOf iM_allWeight iM_enoughWeight iM_worthSum iM_firstRest iM_leastDrawn), (arI rM_r kM_r 287 fM_r), (arI rM_told kM_told 90 fM_told), (arI rM_trial kM_trial 90 fM_trial)] sz)) 0 0 (va_A [(oc7 oM iM_thrown rM_tape iM_taped iM_size iM_at iM_end iM_token iM_whole iM_nameSize iM_fault iM_place iM_trouble rM_letters iM_failed iM_hasCourt rM_r rM_fresh rM_told rM_read rM_st rM_undone rM_kept iM_undos iM_images rM_fresher iM_fresherSize iM_scale iM_night rM_heardRow rM_cutRow iM_breaths iM_cutMany iM_allBreaths rM_trial rM_words iM_fewestBreaths iM_orderMany iM_orderSum iM_leastOrder rM_often iM_setMany iM_someOf iM_allOf iM_allWeight iM_enoughWeight iM_worthSum iM_firstRest iM_leastDrawn), (arI rM_r kM_r 287 fM_r), (arI rM_told kM_told 90 fM_told), (arI rM_trial kM_trial 90 fM_trial)] sz) := by
  refine Met.ofW (cc := cX7_doesFit) (maxL := 2) (ret := (some .boolean)) pnX7 rfl ?_
  intro p e s m args below meth c s₁ B hml hv
  obtain ⟨rfl, hsz, hP, hK, hD0, hE⟩ := hv
  have hx := B.exec
  have hb := B.bytes
  have hr := B.returns
  have hts : ∀ w ∈ wG, w.before ([.ref oM, .int p0] : List Value).toArray s = true := fun w h => atoms_spec (ws := Cond.code yX7_doesFit cX7_doesFit 2 (some .boolean) :: wG) B.pre w (List.mem_cons_of_mem _ h)
  have hown : s.vm.findClass RX7 = some m.cls := own_of B.named rfl
  have hlocks := B.notSynchronized
  subst hsz
  have hD := hD0.self (sz := s.heap.size)
  generalize hAe : va_A [(oc7 oM iM_thrown rM_tape iM_taped iM_size iM_at iM_end iM_token iM_whole iM_nameSize iM_fault iM_place iM_trouble rM_letters iM_failed iM_hasCourt rM_r rM_fresh rM_told rM_read rM_st rM_undone rM_kept iM_undos iM_images rM_fresher iM_fresherSize iM_scale iM_night rM_heardRow rM_cutRow iM_breaths iM_cutMany iM_allBreaths rM_trial rM_words iM_fewestBreaths iM_orderMany iM_orderSum iM_leastOrder rM_often iM_setMany iM_someOf iM_allOf iM_allWeight iM_enoughWeight iM_worthSum iM_firstRest iM_leastDrawn), (arI rM_r kM_r 287 fM_r), (arI rM_told kM_told 90 fM_told), (arI rM_trial kM_trial 90 fM_trial)] s.heap.size = A at hD hE ⊢
  have hA : ∀ q : Nat, s.heap.size ≤ q → A q := fun q h => by rw [← hAe]; exact Or.inr h
  have hS : va_S A s.heap s.heap [] := va_S.rf
  have hl := lv_entry ([.ref oM, .int p0]) (n := 2) (Nat.le_of_ble_eq_true rfl)
  rw [lg_entry_eq]
  generalize (lg_sl ([.ref oM, .int p0]) ++ List.replicate (2 - (lg_sl ([.ref oM, .int p0])).length) Slot.unset).toArray = ls at hl ⊢
  have hl : lv_has ls 2 [(0, .ref oM), (1, .int p0)] := hl
  have hG := PX7_doesFit_eq fM_r fM_told iM_scale iM_night fM_trial p0
  have s_slips := r_R.slips
  have s_nodes := r_R.nodes
  have s_uns := r_R.uns
  refine lv_aload_n hx hb dX7_doesFit_0 rfl (lv_at hl 0 rfl) ?_
  refine lv_aload_n hx hb dX7_doesFit_1 rfl (lv_at hl 0 rfl) ?_
  refine va_get (D := (dC, dI)) (ci := 7) (v := .ref rM_told) (C := RX7) (T := TX7) (N := 48) hx hb hts inX7 hown hK hP 0 rfl rfl 17 (by decide) (hts _ wd_157) (fun _ h9 => h9) rfl dX7_doesFit_2 ?_
  refine lv_iload_n hx hb dX7_doesFit_5 rfl (lv_at hl 1 rfl) ?_
  have hFc := va_free (wc := [(oc7 oM iM_thrown rM_tape iM_taped iM_size iM_at iM_end iM_token iM_whole iM_nameSize iM_fault iM_place iM_trouble rM_letters iM_failed iM_hasCourt rM_r rM_fresh rM_told rM_read rM_st rM_undone rM_kept iM_undos iM_images rM_fresher iM_fresherSize iM_scale iM_night rM_heardRow rM_cutRow iM_breaths iM_cutMany iM_allBreaths rM_trial rM_words iM_fewestBreaths iM_orderMany iM_orderSum iM_leastOrder rM_often iM_setMany iM_someOf iM_allOf iM_allWeight iM_enoughWeight iM_worthSum iM_firstRest iM_leastDrawn), (arI rM_r kM_r 287 fM_r), (arI rM_trial kM_trial 90 fM_trial), (arI rM_told kM_told 90 fM_told)]) hD hS hA [0, 1, 3, 2] rfl
  refine va_callv (va_runV (As := [.ref rM_told, .int p0]) (rest := []) ⟨hx, hb, hml, hown, hts⟩ (tX7_slipBy l dC dI _ oM iM_thrown rM_tape iM_taped iM_size iM_at iM_end iM_token iM_whole iM_nameSize iM_fault iM_place iM_trouble rM_letters iM_failed iM_hasCourt rM_r fM_r kM_r rM_fresh rM_told rM_read rM_st rM_undone rM_kept iM_undos iM_images rM_fresher iM_fresherSize iM_scale iM_night rM_heardRow rM_cutRow iM_breaths iM_cutMany iM_allBreaths rM_trial fM_trial kM_trial rM_words iM_fewestBreaths iM_orderMany iM_orderSum iM_leastOrder rM_often iM_setMany iM_someOf iM_allOf iM_allWeight iM_enoughWeight iM_worthSum iM_firstRest iM_leastDrawn rM_told fM_told kM_told p0 b_iM_taped b_iM_size b_iM_end b_iM_failed b_iM_hasCourt b_iM_undos b_iM_images b_iM_scale b_iM_breaths b_iM_cutMany (by assumption) (by assumption) (by assumption)) (cwV 2 hts (wd_V wd_1192 wd_1193 wd_1194 wd_5 (wd_c wd_1195)) rfl rfl rfl dv_yX7_slipBy_2 ⟨Nat.le_of_ble_eq_true rfl, Nat.le_of_ble_eq_true rfl⟩) ⟨Pw.fb, recvX7 hK hP (q0 := 0) rfl, fun U hU hW => Pw.to (hP.sub [0, 1, 3, 2] rfl) (hD.sub [0, 1, 3, 2] (by decide) rfl) (hK.sub [0, 2, 1] rfl) hE hS hFc hU hW⟩ rfl rfl hl.1 rfl (lv_room (Nat.le_of_ble_eq_true rfl)) dX7_doesFit_6 ⟨Nat.le_of_ble_eq_true rfl, Nat.le_of_ble_eq_true rfl⟩) hS (fun q _ h => hFc q h) hFc (fun u t H locs ht hvm hw hB hz1 hk1 hS => ?_)
  refine ex_1_2 hB (fun f_2393 e_f_2393_0 e_f_2393_1 hB => ?_)
  obtain ⟨hP, hD, hK⟩ := Bw.go (ws' := [(oc7 oM iM_thrown rM_tape iM_taped iM_size iM_at iM_end iM_token iM_whole iM_nameSize iM_fault iM_place iM_trouble rM_letters iM_failed iM_hasCourt rM_r rM_fresh rM_told rM_read rM_st rM_undone rM_kept iM_undos iM_images rM_fresher iM_fresherSize iM_scale iM_night rM_heardRow rM_cutRow iM_breaths iM_cutMany iM_allBreaths rM_trial rM_words iM_fewestBreaths iM_orderMany iM_orderSum iM_leastOrder rM_often iM_setMany iM_someOf iM_allOf iM_allWeight iM_enoughWeight iM_worthSum iM_firstRest iM_leastDrawn), (arI rM_r kM_r 287 fM_r), (arI rM_trial kM_trial 90 f_2393), (arI rM_told kM_told 90 fM_told)]) (tys' := [(kM_r, .int), (kM_trial, .int), (kM_told, .int)]) hB rfl ht hvm hP hD hK [0, 1, 3, 2] [] rfl (by decide) (by decide) [] hk1 hFc rfl rfl rfl
  clear hz1 hk1 hvm ht hB
  have hG := hG.trans (lt_eq e_f_2393_1.symm)
  refine lv_aload_n hx hb dX7_doesFit_9 rfl (lv_at hl 0 rfl) ?_
  refine va_get (D := (dC, dI)) (ci := 7) (v := .ref rM_r) (C := RX7) (T := TX7) (N := 48) hx hb hts inX7 hown hK hP 0 rfl rfl 15 (by decide) (hts _ wd_155) (fun _ h9 => h9) rfl dX7_doesFit_10 ?_
  refine lv_iconst (v := 4) hx hb dX7_doesFit_13 (by decide) ?_
  refine va_iald hx hb hK hP 1 0 rfl rfl (by unfold vp_in; decide) dX7_doesFit_14 ?_
  refine lv_topi (fun x_2394 ex_2394 => ?_)
  have hG := hG.trans (lt_eq ex_2394)
  have cx_2394 : (fM_r 4).toInt = x_2394.toInt := congrArg Int32.toInt (show fM_r 4 = x_2394 from ex_2394.symm)
  refine lv_if_eq (tgt := 42) hx hb dX7_doesFit_15 (by decide) (fun c_2395 => ?_) (fun c_2395 => ?_)
  · skip
    have hG := hG.trans (if_pos c_2395)
    have gc_2395 := ti_eq c_2395 rfl kc_0
    refine lv_iconst (v := 1) hx hb dX7_doesFit_42 (by decide) ?_
    refine lv_goto (tgt := 47) hx hb dX7_doesFit_43 (by decide) ?_
    exact wq_z (v := 1) hx hb hr rfl (cI 1) ⟨⟨Or.inr rfl, trivial⟩, (cI_of 1)⟩ (fun t ht hW => ⟨f_2393, (cI_tup hG), Bw.to (hP.sub [0, 1, 3, 2] rfl) (hD.sub [0, 1, 3, 2] (by decide) rfl) (hK.sub [0, 2, 1] rfl) ht hW⟩) hS dX7_doesFit_47 hlocks
  · skip
    have hG := hG.trans (if_neg c_2395)
    have gc_2395 := ti_ne c_2395 rfl kc_0
    refine lv_aload_n hx hb dX7_doesFit_18 rfl (lv_at hl 0 rfl) ?_
    refine lv_aload_n hx hb dX7_doesFit_19 rfl (lv_at hl 0 rfl) ?_
    refine va_get (D := (dC, dI)) (ci := 7) (v := .ref rM_trial) (C := RX7) (T := TX7) (N := 48) hx hb hts inX7 hown hK hP 0 rfl rfl 33 (by decide) (hts _ wd_167) (fun _ h9 => h9) rfl dX7_doesFit_20 ?_
    have hFc := va_free (wc := [(oc7 oM iM_thrown rM_tape iM_taped iM_size iM_at iM_end iM_token iM_whole iM_nameSize iM_fault iM_place iM_trouble rM_letters iM_failed iM_hasCourt rM_r rM_fresh rM_told rM_read rM_st rM_undone rM_kept iM_undos iM_images rM_fresher iM_fresherSize iM_scale iM_night rM_heardRow rM_cutRow iM_breaths iM_cutMany iM_allBreaths rM_trial rM_words iM_fewestBreaths iM_orderMany iM_orderSum iM_leastOrder rM_often iM_setMany iM_someOf iM_allOf iM_allWeight iM_enoughWeight iM_worthSum iM_firstRest iM_leastDrawn), (arI rM_r kM_r 287 fM_r), (arI rM_told kM_told 90 fM_told), (arI rM_trial kM_trial 90 f_2393)]) hD hS hA [0, 1, 3, 2] rfl
    refine va_calli (va_runV (As := [.ref rM_trial]) (rest := []) ⟨hx, hb, hml, hown, hts⟩ (tX7_throneBy l dC dI _ oM iM_thrown rM_tape iM_taped iM_size iM_at iM_end iM_token iM_whole iM_nameSize iM_fault iM_place iM_trouble rM_letters iM_failed iM_hasCourt rM_r fM_r kM_r rM_fresh rM_told fM_told kM_told rM_read rM_st rM_undone rM_kept iM_undos iM_images rM_fresher iM_fresherSize iM_scale iM_night rM_heardRow rM_cutRow iM_breaths iM_cutMany iM_allBreaths rM_trial rM_words iM_fewestBreaths iM_orderMany iM_orderSum iM_leastOrder rM_often iM_setMany iM_someOf iM_allOf iM_allWeight iM_enoughWeight iM_worthSum iM_firstRest iM_leastDrawn rM_trial f_2393 kM_trial b_iM_taped b_iM_size b_iM_end b_iM_failed b_iM_hasCourt b_iM_undos b_iM_images b_iM_scale b_iM_breaths b_iM_cutMany (by assumption) (by assumption) (by assumption) (by assumption) ⟨hth.1, hth.2⟩) (cwV 1 hts (wd_V wd_979 wd_980 wd_981 wd_5 (wd_c wd_982)) rfl rfl rfl dv_yX7_throneBy_1 ⟨Nat.le_of_ble_eq_true rfl, Nat.le_of_ble_eq_true rfl⟩) ⟨Pw.fb, recvX7 hK hP (q0 := 0) rfl, fun U hU hW => Pw.to (hP.sub [0, 1, 3, 2] rfl) (hD.sub [0, 1, 3, 2] (by decide) rfl) (hK.sub [0, 2, 1] rfl) hE hS hFc hU hW⟩ rfl rfl hl.1 rfl (lv_room (Nat.le_of_ble_eq_true rfl)) dX7_doesFit_23 ⟨Nat.le_of_ble_eq_true rfl, Nat.le_of_ble_eq_true rfl⟩) hS (fun q _ h => hFc q h) hFc (fun r u t H locs ht hvm hw hB hz1 hk1 hS => ?_)
    have hru9 := hw.2
    have hw := hw.1
    obtain ⟨hP, hD, hK⟩ := Bw.go (ws' := [(oc7 oM iM_thrown rM_tape iM_taped iM_size iM_at iM_end iM_token iM_whole iM_nameSize iM_fault iM_place iM_trouble rM_letters iM_failed iM_hasCourt rM_r rM_fresh rM_told rM_read rM_st rM_undone rM_kept iM_undos iM_images rM_fresher iM_fresherSize iM_scale iM_night rM_heardRow rM_cutRow iM_breaths iM_cutMany iM_allBreaths rM_trial rM_words iM_fewestBreaths iM_orderMany iM_orderSum iM_leastOrder rM_often iM_setMany iM_someOf iM_allOf iM_allWeight iM_enoughWeight iM_worthSum iM_firstRest iM_leastDrawn), (arI rM_r kM_r 287 fM_r), (arI rM_told kM_told 90 fM_told), (arI rM_trial kM_trial 90 f_2393)]) (tys' := [(kM_r, .int), (kM_told, .int), (kM_trial, .int)]) hB rfl ht hvm hP hD hK [0, 1, 3, 2] [] rfl (by decide) (by decide) [] hk1 hFc rfl rfl rfl
    clear hz1 hk1 hvm ht hB
    obtain ⟨x_2396, rfl⟩ : ∃ z, z = r := ⟨_, rfl⟩
    have hG := hG.trans (lt_eq hru9.symm)
    refine lv_aload_n hx hb dX7_doesFit_26 rfl (lv_at hl 0 rfl) ?_
    refine va_get (D := (dC, dI)) (ci := 7) (v := .int iM_scale) (C := RX7) (T := TX7) (N := 48) hx hb hts inX7 hown hK hP 0 rfl rfl 26 (by decide) (hts _ wd_163) (fun _ h9 => h9) rfl dX7_doesFit_27 ?_
    refine lv_idiv hx hb dX7_doesFit_30 (ti_n0 rfl (by omega)) ?_
    refine lv_topi (fun x_2397 ex_2397 => ?_)
    have hG := hG.trans (lt_eq ex_2397)
    refine lv_aload_n hx hb dX7_doesFit_31 rfl (lv_at hl 0 rfl) ?_
    refine va_get (D := (dC, dI)) (ci := 7) (v := .ref rM_r) (C := RX7) (T := TX7) (N := 48) hx hb hts inX7 hown hK hP 0 rfl rfl 15 (by decide) (hts _ wd_155) (fun _ h9 => h9) rfl dX7_doesFit_32 ?_
    refine lv_iconst (v := 4) hx hb dX7_doesFit_35 (by decide) ?_
    refine va_iald hx hb hK hP 1 0 rfl rfl (by unfold vp_in; decide) dX7_doesFit_36 ?_
    refine lv_topi (fun x_2398 ex_2398 => ?_)
    have hG := hG.trans (lt_eq ex_2398)
    have cx_2398 : (fM_r 4).toInt = x_2398.toInt := congrArg Int32.toInt (show fM_r 4 = x_2398 from ex_2398.symm)
    refine lv_iconst (v := 1) hx hb dX7_doesFit_37 (by decide) ?_
    refine lv_isub hx hb dX7_doesFit_38 ?_
    refine lv_topi (fun x_2399 ex_2399 => ?_)
    have hG := hG.trans (lt_eq ex_2399)
    refine lv_icmp_ne (tgt := 46) hx hb dX7_doesFit_39 (by decide) (fun c_2400 => ?_) (fun c_2400 => ?_)
    · skip
      have hG := hG.trans (if_neg c_2400)
      have gc_2400 := ti_ne c_2400 rfl rfl
      refine lv_iconst (v := 0) hx hb dX7_doesFit_46 (by decide) ?_
      exact wq_z (v := 0) hx hb hr rfl (cI 0) ⟨⟨Or.inl rfl, trivial⟩, (cI_of 0)⟩ (fun t ht hW => ⟨f_2393, (cI_tup hG), Bw.to hP hD hK ht hW⟩) hS dX7_doesFit_47 hlocks
    · skip
      have hG := hG.trans (if_pos c_2400)
      have gc_2400 := ti_eq c_2400 rfl rfl
      refine lv_iconst (v := 1) hx hb dX7_doesFit_42 (by decide) ?_
      refine lv_goto (tgt := 47) hx hb dX7_doesFit_43 (by decide) ?_
      exact wq_z (v := 1) hx hb hr rfl (cI 1) ⟨⟨Or.inr rfl, trivial⟩, (cI_of 1)⟩ (fun t ht hW => ⟨f_2393, (cI_tup hG), Bw.to hP hD hK ht hW⟩) hS dX7_doesFit_47 hlocks
set_option maxHeartbeats 4000000 in
set_option maxRecDepth 100000 in
theorem tX7_seekSets (l : Launch) (dC : Nat → ClassId) (dI : Nat → Nat → Nat) (sz : Nat) (oM : Nat) (iM_thrown : Int32) (rM_tape : Nat) (iM_taped : Int32) (iM_size : Int32) (iM_at : Int32) (iM_end : Int32) (iM_token : Int32) (iM_whole : Int32) (iM_nameSize : Int32) (iM_fault : Int32) (iM_place : Int32) (iM_trouble : Int32) (rM_letters : Nat) (iM_failed : Int32) (iM_hasCourt : Int32) (rM_r : Nat) (fM_r : Nat → Int32) (kM_r : ClassId) (rM_fresh : Nat) (rM_told : Nat) (fM_told : Nat → Int32) (kM_told : ClassId) (rM_read : Nat) (rM_st : Nat) (rM_undone : Nat) (rM_kept : Nat) (iM_undos : Int32) (iM_images : Int32) (rM_fresher : Nat) (iM_fresherSize : Int32) (iM_scale : Int32) (iM_night : Int32) (rM_heardRow : Nat) (rM_cutRow : Nat) (iM_breaths : Int32) (iM_cutMany : Int32) (iM_allBreaths : Int32) (rM_trial : Nat) (fM_trial : Nat → Int32) (kM_trial : ClassId) (rM_words : Nat) (iM_fewestBreaths : Int32) (iM_orderMany : Int32) (iM_orderSum : Int32) (iM_leastOrder : Int32) (rM_often : Nat) (fM_often : Nat → Int32) (kM_often : ClassId) (iM_setMany : Int32) (iM_someOf : Int32) (iM_allOf : Int32) (iM_allWeight : Int64) (iM_enoughWeight : Int64) (iM_worthSum : Int64) (iM_firstRest : Int32) (iM_leastDrawn : Int32) (p0 : Int32) (b_iM_taped : 0 ≤ iM_taped.toInt ∧ iM_taped.toInt ≤ 900) (b_iM_size : 0 ≤ iM_size.toInt ∧ iM_size.toInt ≤ 900) (b_iM_end : 0 ≤ iM_end.toInt ∧ iM_end.toInt ≤ 900) (b_iM_failed : 0 ≤ iM_failed.toInt ∧ iM_failed.toInt ≤ 1) (b_iM_hasCourt : 0 ≤ iM_hasCourt.toInt ∧ iM_hasCourt.toInt ≤ 1) (b_iM_undos : 0 ≤ iM_undos.toInt ∧ iM_undos.toInt ≤ 16) (b_iM_images : 0 ≤ iM_images.toInt ∧ iM_images.toInt ≤ 3) (b_iM_scale : 1 ≤ iM_scale.toInt ∧ iM_scale.toInt ≤ 1296) (b_iM_breaths : 0 ≤ iM_breaths.toInt ∧ iM_breaths.toInt ≤ 399) (b_iM_cutMany : 0 ≤ iM_cutMany.toInt ∧ iM_cutMany.toInt ≤ 399) (r_R : ROk fM_r) (r_C : iM_hasCourt.toInt ≤ 0 ∨ (1 ≤ (fM_r 1).toInt ∧ 0 ≤ (fM_r 6).toInt ∧ (fM_r 6).toInt < (fM_r 1).toInt)) (r_told : RowOk fM_r fM_told) (hth : 0 ≤ (fM_r 6).toInt ∧ (fM_r 6).toInt < (fM_r 1).toInt) : Met l yX7_seekSets (Cond.code yX7_seekSets cX7_seekSets 5 (some .int) :: wG) ({ frames := 23, cells := 0, slots := 0, locals := 606 }) (va_Pc [.ref oM, .int p0] (Pw dC dI sz [(oc7 oM iM_thrown rM_tape iM_taped iM_size iM_at iM_end iM_token iM_whole iM_nameSize iM_fault iM_place iM_trouble rM_letters iM_failed iM_hasCourt rM_r rM_fresh rM_told rM_read rM_st rM_undone rM_kept iM_undos iM_images rM_fresher iM_fresherSize iM_scale iM_night rM_heardRow rM_cutRow iM_breaths iM_cutMany iM_allBreaths rM_trial rM_words iM_fewestBreaths iM_orderMany iM_orderSum iM_leastOrder rM_often iM_setMany iM_someOf iM_allOf iM_allWeight iM_enoughWeight iM_worthSum iM_firstRest iM_leastDrawn), (arI rM_r kM_r 287 fM_r), (arI rM_told kM_told 90 fM_told), (arI rM_trial kM_trial 90 fM_trial), (arI rM_often kM_often 4 fM_often)] [(kM_r, .int), (kM_told, .int), (kM_trial, .int), (kM_often, .int)])) (va_Qi (fun (r : Int32) (u : Nat) => (True ∧ True) ∧ r = Int32.ofNat u) (fun (u : Nat) (t : State) => ∃ (niM_setMany : Int32) (niM_someOf : Int32) (niM_allOf : Int32) (nfM_trial : Nat → Int32) (nfM_often : Nat → Int32), (PX7_seekSets fM_r fM_told iM_scale iM_night fM_trial fM_often p0 = (Int32.ofNat u, niM_setMany, niM_someOf, niM_allOf, nfM_trial, nfM_often)) ∧ Bw dC dI (va_A [(oc7 oM iM_thrown rM_tape iM_taped iM_size iM_at iM_end iM_token iM_whole iM_nameSize iM_fault iM_place iM_trouble rM_letters iM_failed iM_hasCourt rM_r rM_fresh rM_told rM_read rM_st rM_undone rM_kept iM_undos iM_images rM_fresher iM_fresherSize iM_scale iM_night rM_heardRow rM_cutRow iM_breaths iM_cutMany iM_allBreaths rM_trial rM_words iM_fewestBreaths iM_orderMany iM_orderSum iM_leastOrder rM_often iM_setMany iM_someOf iM_allOf iM_allWeight iM_enoughWeight iM_worthSum iM_firstRest iM_leastDrawn), (arI rM_r kM_r 287 fM_r), (arI rM_told kM_told 90 fM_told), (arI rM_trial kM_trial 90 fM_trial), (arI rM_often kM_often 4 fM_often)] sz) [(oc7 oM iM_thrown rM_tape iM_taped iM_size iM_at iM_end iM_token iM_whole iM_nameSize iM_fault iM_place iM_trouble rM_letters iM_failed iM_hasCourt rM_r rM_fresh rM_told rM_read rM_st rM_undone rM_kept iM_undos iM_images rM_fresher iM_fresherSize iM_scale iM_night rM_heardRow rM_cutRow iM_breaths iM_cutMany iM_allBreaths rM_trial rM_words iM_fewestBreaths iM_orderMany iM_orderSum iM_leastOrder rM_often niM_setMany niM_someOf niM_allOf iM_allWeight iM_enoughWeight iM_worthSum iM_firstRest iM_leastDrawn), (arI rM_r kM_r 287 fM_r), (arI rM_told kM_told 90 fM_told), (arI rM_trial kM_trial 90 nfM_trial), (arI rM_often kM_often 4 nfM_often)] [(kM_r, .int), (kM_told, .int), (kM_trial, .int), (kM_often, .int)] t) (va_A [(oc7 oM iM_thrown rM_tape iM_taped iM_size iM_at iM_end iM_token iM_whole iM_nameSize iM_fault iM_place iM_trouble rM_letters iM_failed iM_hasCourt rM_r rM_fresh rM_told rM_read rM_st rM_undone rM_kept iM_undos iM_images rM_fresher iM_fresherSize iM_scale iM_night rM_heardRow rM_cutRow iM_breaths iM_cutMany iM_allBreaths rM_trial rM_words iM_fewestBreaths iM_orderMany iM_orderSum iM_leastOrder rM_often iM_setMany iM_someOf iM_allOf iM_allWeight iM_enoughWeight iM_worthSum iM_firstRest iM_leastDrawn), (arI rM_r kM_r 287 fM_r), (arI rM_told kM_told 90 fM_told), (arI rM_trial kM_trial 90 fM_trial), (arI rM_often kM_often 4 fM_often)] sz)) 0 0 (va_A [(oc7 oM iM_thrown rM_tape iM_taped iM_size iM_at iM_end iM_token iM_whole iM_nameSize iM_fault iM_place iM_trouble rM_letters iM_failed iM_hasCourt rM_r rM_fresh rM_told rM_read rM_st rM_undone rM_kept iM_undos iM_images rM_fresher iM_fresherSize iM_scale iM_night rM_heardRow rM_cutRow iM_breaths iM_cutMany iM_allBreaths rM_trial rM_words iM_fewestBreaths iM_orderMany iM_orderSum iM_leastOrder rM_often iM_setMany iM_someOf iM_allOf iM_allWeight iM_enoughWeight iM_worthSum iM_firstRest iM_leastDrawn), (arI rM_r kM_r 287 fM_r), (arI rM_told kM_told 90 fM_told), (arI rM_trial kM_trial 90 fM_trial), (arI rM_often kM_often 4 fM_often)] sz) := by
  refine Met.ofW (cc := cX7_seekSets) (maxL := 5) (ret := (some .int)) pnX7 rfl ?_
  intro p e s m args below meth c s₁ B hml hv
  obtain ⟨rfl, hsz, hP, hK, hD0, hE⟩ := hv
  have hx := B.exec
  have hb := B.bytes
  have hr := B.returns
  have hts : ∀ w ∈ wG, w.before ([.ref oM, .int p0] : List Value).toArray s = true := fun w h => atoms_spec (ws := Cond.code yX7_seekSets cX7_seekSets 5 (some .int) :: wG) B.pre w (List.mem_cons_of_mem _ h)
  have hown : s.vm.findClass RX7 = some m.cls := own_of B.named rfl
  have hlocks := B.notSynchronized
  subst hsz
  have hD := hD0.self (sz := s.heap.size)
  generalize hAe : va_A [(oc7 oM iM_thrown rM_tape iM_taped iM_size iM_at iM_end iM_token iM_whole iM_nameSize iM_fault iM_place iM_trouble rM_letters iM_failed iM_hasCourt rM_r rM_fresh rM_told rM_read rM_st rM_undone rM_kept iM_undos iM_images rM_fresher iM_fresherSize iM_scale iM_night rM_heardRow rM_cutRow iM_breaths iM_cutMany iM_allBreaths rM_trial rM_words iM_fewestBreaths iM_orderMany iM_orderSum iM_leastOrder rM_often iM_setMany iM_someOf iM_allOf iM_allWeight iM_enoughWeight iM_worthSum iM_firstRest iM_leastDrawn), (arI rM_r kM_r 287 fM_r), (arI rM_told kM_told 90 fM_told), (arI rM_trial kM_trial 90 fM_trial), (arI rM_often kM_often 4 fM_often)] s.heap.size = A at hD hE ⊢
  have hA : ∀ q : Nat, s.heap.size ≤ q → A q := fun q h => by rw [← hAe]; exact Or.inr h
  have hS : va_S A s.heap s.heap [] := va_S.rf
  have hl := lv_entry ([.ref oM, .int p0]) (n := 5) (Nat.le_of_ble_eq_true rfl)
  rw [lg_entry_eq]
  generalize (lg_sl ([.ref oM, .int p0]) ++ List.replicate (5 - (lg_sl ([.ref oM, .int p0])).length) Slot.unset).toArray = ls at hl ⊢
  have hl : lv_has ls 5 [(0, .ref oM), (1, .int p0)] := hl
  have hG := PX7_seekSets_eq fM_r fM_told iM_scale iM_night fM_trial fM_often p0
  have rg_p0 := fb_rng p0
  have s_slips := r_R.slips
  have s_nodes := r_R.nodes
  have s_uns := r_R.uns
  refine lv_iconst (v := (-1)) hx hb dX7_seekSets_0 (by decide) ?_
  refine lv_istore_n (lv' := [(2, .int (-1)), (0, .ref oM), (1, .int p0)]) hx hb dX7_seekSets_1 rfl hl (by decide) rfl (fun ls hl => ?_)
  refine lv_aload_n hx hb dX7_seekSets_2 rfl (lv_at hl 1 rfl) ?_
  refine lv_iconst (v := 0) hx hb dX7_seekSets_3 (by decide) ?_
  refine va_put (D := (dC, dI)) (ci := 7) (v := .int 0) (ty := .int) (C := RX7) (T := TX7) (N := 48) hx hb hts inX7 tyX7 tyX7_ok nmX7 hown hK hP hD hS 0 rfl rfl 40 (by decide) (hts _ wd_1181) (fun _ h9 => h9) rfl (by decide +kernel) rfl rfl (Nat.le_of_ble_eq_true rfl) dX7_seekSets_4 (fun H locs hP hD hS => ?_)
  obtain ⟨hP, hD⟩ := wl2 (ws' := [(oc7 oM iM_thrown rM_tape iM_taped iM_size iM_at iM_end iM_token iM_whole iM_nameSize iM_fault iM_place iM_trouble rM_letters iM_failed iM_hasCourt rM_r rM_fresh rM_told rM_read rM_st rM_undone rM_kept iM_undos iM_images rM_fresher iM_fresherSize iM_scale iM_night rM_heardRow rM_cutRow iM_breaths iM_cutMany iM_allBreaths rM_trial rM_words iM_fewestBreaths iM_orderMany iM_orderSum iM_leastOrder rM_often 0 iM_someOf iM_allOf iM_allWeight iM_enoughWeight iM_worthSum iM_firstRest iM_leastDrawn), (arI rM_r kM_r 287 fM_r), (arI rM_told kM_told 90 fM_told), (arI rM_trial kM_trial 90 fM_trial), (arI rM_often kM_often 4 fM_often)]) hP hD rfl
  refine lv_aload_n hx hb dX7_seekSets_7 rfl (lv_at hl 1 rfl) ?_
  refine lv_iconst (v := 0) hx hb dX7_seekSets_8 (by decide) ?_
  refine va_put (D := (dC, dI)) (ci := 7) (v := .int 0) (ty := .int) (C := RX7) (T := TX7) (N := 48) hx hb hts inX7 tyX7 tyX7_ok nmX7 hown hK hP hD hS 0 rfl rfl 41 (by decide) (hts _ wd_1186) (fun _ h9 => h9) rfl (by decide +kernel) rfl rfl (Nat.le_of_ble_eq_true rfl) dX7_seekSets_9 (fun H locs hP hD hS => ?_)
  obtain ⟨hP, hD⟩ := wl2 (ws' := [(oc7 oM iM_thrown rM_tape iM_taped iM_size iM_at iM_end iM_token iM_whole iM_nameSize iM_fault iM_place iM_trouble rM_letters iM_failed iM_hasCourt rM_r rM_fresh rM_told rM_read rM_st rM_undone rM_kept iM_undos iM_images rM_fresher iM_fresherSize iM_scale iM_night rM_heardRow rM_cutRow iM_breaths iM_cutMany iM_allBreaths rM_trial rM_words iM_fewestBreaths iM_orderMany iM_orderSum iM_leastOrder rM_often 0 0 iM_allOf iM_allWeight iM_enoughWeight iM_worthSum iM_firstRest iM_leastDrawn), (arI rM_r kM_r 287 fM_r), (arI rM_told kM_told 90 fM_told), (arI rM_trial kM_trial 90 fM_trial), (arI rM_often kM_often 4 fM_often)]) hP hD rfl
  refine lv_aload_n hx hb dX7_seekSets_12 rfl (lv_at hl 1 rfl) ?_
  refine lv_iconst (v := 1) hx hb dX7_seekSets_13 (by decide) ?_
  refine lv_aload_n hx hb dX7_seekSets_14 rfl (lv_at hl 1 rfl) ?_
  refine va_get (D := (dC, dI)) (ci := 7) (v := .ref rM_r) (C := RX7) (T := TX7) (N := 48) hx hb hts inX7 hown hK hP 0 rfl rfl 15 (by decide) (hts _ wd_155) (fun _ h9 => h9) rfl dX7_seekSets_15 ?_
  refine lv_iconst (v := 3) hx hb dX7_seekSets_18 (by decide) ?_
  refine va_iald hx hb hK hP 1 0 rfl rfl (by unfold vp_in; decide) dX7_seekSets_19 ?_
  refine lv_topi (fun x_2644 ex_2644 => ?_)
  have hG := hG.trans (lt_eq ex_2644)
  have rg_x_2644 := fb_rng x_2644
  have cx_2644 : (fM_r 3).toInt = x_2644.toInt := congrArg Int32.toInt (show fM_r 3 = x_2644 from ex_2644.symm)
  have sx_2644 := r_R.uns
  refine lv_ishl hx hb dX7_seekSets_20 ?_
  refine lv_topi (fun x_2645 ex_2645 => ?_)
  have hG := hG.trans (lt_eq ex_2645)
  have rg_x_2645 := fb_rng x_2645
  have qx_2645 := ti_shl ex_2645 rfl (by omega) (by omega)
  refine lv_iconst (v := 1) hx hb dX7_seekSets_21 (by decide) ?_
  refine lv_isub hx hb dX7_seekSets_22 ?_
  refine lv_topi (fun x_2646 ex_2646 => ?_)
  have hG := hG.trans (lt_eq ex_2646)
  have vx_2646 : x_2646.toInt = x_2645.toInt + (-1) := by have q := ti_sub ex_2646 rfl kc_1 (by omega) (by omega); omega
  refine va_put (D := (dC, dI)) (ci := 7) (v := .int x_2646) (ty := .int) (C := RX7) (T := TX7) (N := 48) hx hb hts inX7 tyX7 tyX7_ok nmX7 hown hK hP hD hS 0 rfl rfl 42 (by decide) (hts _ wd_1187) (fun _ h9 => h9) rfl (by decide +kernel) rfl rfl (Nat.le_of_ble_eq_true rfl) dX7_seekSets_23 (fun H locs hP hD hS => ?_)
  obtain ⟨hP, hD⟩ := wl2 (ws' := [(oc7 oM iM_thrown rM_tape iM_taped iM_size iM_at iM_end iM_token iM_whole iM_nameSize iM_fault iM_place iM_trouble rM_letters iM_failed iM_hasCourt rM_r rM_fresh rM_told rM_read rM_st rM_undone rM_kept iM_undos iM_images rM_fresher iM_fresherSize iM_scale iM_night rM_heardRow rM_cutRow iM_breaths iM_cutMany iM_allBreaths rM_trial rM_words iM_fewestBreaths iM_orderMany iM_orderSum iM_leastOrder rM_often 0 0 x_2646 iM_allWeight iM_enoughWeight iM_worthSum iM_firstRest iM_leastDrawn), (arI rM_r kM_r 287 fM_r), (arI rM_told kM_told 90 fM_told), (arI rM_trial kM_trial 90 fM_trial), (arI rM_often kM_often 4 fM_often)]) hP hD rfl
  refine lv_iconst (v := 0) hx hb dX7_seekSets_26 (by decide) ?_
  refine lv_istore_n (lv' := [(3, .int 0), (2, .int (-1)), (0, .ref oM), (1, .int p0)]) hx hb dX7_seekSets_27 rfl hl (by decide) rfl (fun ls hl => ?_)
  have hl := lv_sub hl (l' := [(3, .int 0), (2, .int (-1)), (0, .ref oM), (1, .int p0)]) [0, 1, 2, 3] rfl
  have key_n_2649 : ∀ (n_2649 : Nat) (z_2647 : Int32) (f_2648 : Nat → Int32) (H : Heap) (locs : List Loc) (ls : Array Slot), (0 ≤ z_2647.toInt ∧ z_2647.toInt ≤ 2147483647) → (2147483647 - z_2647.toInt).toNat < n_2649 → (PX7_seekSets fM_r fM_told iM_scale iM_night fM_trial fM_often p0 = HX7_seekSets_0 fM_r fM_told iM_scale iM_night fM_trial p0 x_2646 n_2649 z_2647 f_2648) → va_P (dC, dI) vwCl [(oc7 oM iM_thrown rM_tape iM_taped iM_size iM_at iM_end iM_token iM_whole iM_nameSize iM_fault iM_place iM_trouble rM_letters iM_failed iM_hasCourt rM_r rM_fresh rM_told rM_read rM_st rM_undone rM_kept iM_undos iM_images rM_fresher iM_fresherSize iM_scale iM_night rM_heardRow rM_cutRow iM_breaths iM_cutMany iM_allBreaths rM_trial rM_words iM_fewestBreaths iM_orderMany iM_orderSum iM_leastOrder rM_often 0 0 x_2646 iM_allWeight iM_enoughWeight iM_worthSum iM_firstRest iM_leastDrawn), (arI rM_r kM_r 287 fM_r), (arI rM_told kM_told 90 fM_told), (arI rM_trial kM_trial 90 fM_trial), (arI rM_often kM_often 4 f_2648)] H → va_D A [(oc7 oM iM_thrown rM_tape iM_taped iM_size iM_at iM_end iM_token iM_whole iM_nameSize iM_fault iM_place iM_trouble rM_letters iM_failed iM_hasCourt rM_r rM_fresh rM_told rM_read rM_st rM_undone rM_kept iM_undos iM_images rM_fresher iM_fresherSize iM_scale iM_night rM_heardRow rM_cutRow iM_breaths iM_cutMany iM_allBreaths rM_trial rM_words iM_fewestBreaths iM_orderMany iM_orderSum iM_leastOrder rM_often 0 0 x_2646 iM_allWeight iM_enoughWeight iM_worthSum iM_firstRest iM_leastDrawn), (arI rM_r kM_r 287 fM_r), (arI rM_told kM_told 90 fM_told), (arI rM_trial kM_trial 90 fM_trial), (arI rM_often kM_often 4 f_2648)] → va_S A s.heap H locs → lv_has ls 5 [(3, .int z_2647), (2, .int (-1)), (0, .ref oM), (1, .int p0)] → W p l e (headSpec (Cond.code yX7_seekSets cX7_seekSets 5 (some .int) :: wG) ({ frames := 23, cells := 0, slots := 0, locals := 606 })).room s m ([.ref oM, .int p0] : List Value).toArray below meth c H locs 0 0 (MQ below (va_Qi (fun (r : Int32) (u : Nat) => (True ∧ True) ∧ r = Int32.ofNat u) (fun (u : Nat) (t : State) => ∃ (niM_setMany : Int32) (niM_someOf : Int32) (niM_allOf : Int32) (nfM_trial : Nat → Int32) (nfM_often : Nat → Int32), (PX7_seekSets fM_r fM_told iM_scale iM_night fM_trial fM_often p0 = (Int32.ofNat u, niM_setMany, niM_someOf, niM_allOf, nfM_trial, nfM_often)) ∧ Bw dC dI A [(oc7 oM iM_thrown rM_tape iM_taped iM_size iM_at iM_end iM_token iM_whole iM_nameSize iM_fault iM_place iM_trouble rM_letters iM_failed iM_hasCourt rM_r rM_fresh rM_told rM_read rM_st rM_undone rM_kept iM_undos iM_images rM_fresher iM_fresherSize iM_scale iM_night rM_heardRow rM_cutRow iM_breaths iM_cutMany iM_allBreaths rM_trial rM_words iM_fewestBreaths iM_orderMany iM_orderSum iM_leastOrder rM_often niM_setMany niM_someOf niM_allOf iM_allWeight iM_enoughWeight iM_worthSum iM_firstRest iM_leastDrawn), (arI rM_r kM_r 287 fM_r), (arI rM_told kM_told 90 fM_told), (arI rM_trial kM_trial 90 nfM_trial), (arI rM_often kM_often 4 nfM_often)] [(kM_r, .int), (kM_told, .int), (kM_trial, .int), (kM_often, .int)] t) A) ([.ref oM, .int p0] : List Value).toArray s 0 0 A) (F0 m 28 ls []) := by
    intro n_2649
    induction n_2649 with
    | zero => intro z_2647 f_2648 H locs ls hi0_n_2649 hm; exact absurd hm (Nat.not_lt_zero _)
    | succ n_2649 ih_n_2649 =>
      intro z_2647 f_2648 H locs ls hi0_n_2649 hm_n_2649 hG hP hD hS hl
      have hG := hG.trans (HX7_seekSets_0_eq _ _ _ _ _ _ _ _ _ _)
      have rg_z_2647 := fb_rng z_2647
      refine lv_iload_n hx hb dX7_seekSets_28 rfl (lv_at hl 0 rfl) ?_
      refine lv_iconst (v := 4) hx hb dX7_seekSets_29 (by decide) ?_
      refine lv_icmp_ge (tgt := 46) hx hb dX7_seekSets_30 (by decide) (fun c_2650 => ?_) (fun c_2650 => ?_)
      · skip
        have hG := hG.trans (if_pos c_2650)
        have gc_2650 := ti_le c_2650 kc_4 rfl
        refine lv_iconst (v := 0) hx hb dX7_seekSets_46 (by decide) ?_
        refine lv_istore_n (lv' := [(3, .int 0), (2, .int (-1)), (0, .ref oM), (1, .int p0)]) hx hb dX7_seekSets_47 rfl hl (by decide) rfl (fun ls hl => ?_)
        have hl := lv_sub hl (l' := [(3, .int 0), (2, .int (-1)), (0, .ref oM), (1, .int p0)]) [0, 1, 2, 3] rfl
        have key_n_2658 : ∀ (n_2658 : Nat) (z_2651 : Int32) (z_2652 : Int32) (z_2653 : Int32) (z_2654 : Int32) (z_2655 : Int32) (f_2656 : Nat → Int32) (f_2657 : Nat → Int32) (H : Heap) (locs : List Loc) (ls : Array Slot), (0 ≤ z_2651.toInt ∧ z_2651.toInt ≤ 2147483647) → (2147483647 - z_2651.toInt).toNat < n_2658 → (PX7_seekSets fM_r fM_told iM_scale iM_night fM_trial fM_often p0 = HX7_seekSets_1 fM_r fM_told iM_scale iM_night p0 n_2658 z_2651 z_2652 z_2653 z_2654 z_2655 f_2656 f_2657) → va_P (dC, dI) vwCl [(oc7 oM iM_thrown rM_tape iM_taped iM_size iM_at iM_end iM_token iM_whole iM_nameSize iM_fault iM_place iM_trouble rM_letters iM_failed iM_hasCourt rM_r rM_fresh rM_told rM_read rM_st rM_undone rM_kept iM_undos iM_images rM_fresher iM_fresherSize iM_scale iM_night rM_heardRow rM_cutRow iM_breaths iM_cutMany iM_allBreaths rM_trial rM_words iM_fewestBreaths iM_orderMany iM_orderSum iM_leastOrder rM_often z_2653 z_2654 z_2655 iM_allWeight iM_enoughWeight iM_worthSum iM_firstRest iM_leastDrawn), (arI rM_r kM_r 287 fM_r), (arI rM_told kM_told 90 fM_told), (arI rM_trial kM_trial 90 f_2656), (arI rM_often kM_often 4 f_2657)] H → va_D A [(oc7 oM iM_thrown rM_tape iM_taped iM_size iM_at iM_end iM_token iM_whole iM_nameSize iM_fault iM_place iM_trouble rM_letters iM_failed iM_hasCourt rM_r rM_fresh rM_told rM_read rM_st rM_undone rM_kept iM_undos iM_images rM_fresher iM_fresherSize iM_scale iM_night rM_heardRow rM_cutRow iM_breaths iM_cutMany iM_allBreaths rM_trial rM_words iM_fewestBreaths iM_orderMany iM_orderSum iM_leastOrder rM_often z_2653 z_2654 z_2655 iM_allWeight iM_enoughWeight iM_worthSum iM_firstRest iM_leastDrawn), (arI rM_r kM_r 287 fM_r), (arI rM_told kM_told 90 fM_told), (arI rM_trial kM_trial 90 f_2656), (arI rM_often kM_often 4 f_2657)] → va_S A s.heap H locs → lv_has ls 5 [(3, .int z_2651), (2, .int z_2652), (0, .ref oM), (1, .int p0)] → W p l e (headSpec (Cond.code yX7_seekSets cX7_seekSets 5 (some .int) :: wG) ({ frames := 23, cells := 0, slots := 0, locals := 606 })).room s m ([.ref oM, .int p0] : List Value).toArray below meth c H locs 0 0 (MQ below (va_Qi (fun (r : Int32) (u : Nat) => (True ∧ True) ∧ r = Int32.ofNat u) (fun (u : Nat) (t : State) => ∃ (niM_setMany : Int32) (niM_someOf : Int32) (niM_allOf : Int32) (nfM_trial : Nat → Int32) (nfM_often : Nat → Int32), (PX7_seekSets fM_r fM_told iM_scale iM_night fM_trial fM_often p0 = (Int32.ofNat u, niM_setMany, niM_someOf, niM_allOf, nfM_trial, nfM_often)) ∧ Bw dC dI A [(oc7 oM iM_thrown rM_tape iM_taped iM_size iM_at iM_end iM_token iM_whole iM_nameSize iM_fault iM_place iM_trouble rM_letters iM_failed iM_hasCourt rM_r rM_fresh rM_told rM_read rM_st rM_undone rM_kept iM_undos iM_images rM_fresher iM_fresherSize iM_scale iM_night rM_heardRow rM_cutRow iM_breaths iM_cutMany iM_allBreaths rM_trial rM_words iM_fewestBreaths iM_orderMany iM_orderSum iM_leastOrder rM_often niM_setMany niM_someOf niM_allOf iM_allWeight iM_enoughWeight iM_worthSum iM_firstRest iM_leastDrawn), (arI rM_r kM_r 287 fM_r), (arI rM_told kM_told 90 fM_told), (arI rM_trial kM_trial 90 nfM_trial), (arI rM_often kM_often 4 nfM_often)] [(kM_r, .int), (kM_told, .int), (kM_trial, .int), (kM_often, .int)] t) A) ([.ref oM, .int p0] : List Value).toArray s 0 0 A) (F0 m 48 ls []) := by
          intro n_2658
          induction n_2658 with
          | zero => intro z_2651 z_2652 z_2653 z_2654 z_2655 f_2656 f_2657 H locs ls hi0_n_2658 hm; exact absurd hm (Nat.not_lt_zero _)
          | succ n_2658 ih_n_2658 =>
            intro z_2651 z_2652 z_2653 z_2654 z_2655 f_2656 f_2657 H locs ls hi0_n_2658 hm_n_2658 hG hP hD hS hl
            have hG := hG.trans (HX7_seekSets_1_eq _ _ _ _ _ _ _ _ _ _ _ _ _)
            have rg_z_2651 := fb_rng z_2651
            have rg_z_2652 := fb_rng z_2652
            have rg_z_2653 := fb_rng z_2653
            have rg_z_2654 := fb_rng z_2654
            have rg_z_2655 := fb_rng z_2655
            refine lv_iload_n hx hb dX7_seekSets_48 rfl (lv_at hl 0 rfl) ?_
            refine lv_iconst (v := 1) hx hb dX7_seekSets_49 (by decide) ?_
            refine lv_aload_n hx hb dX7_seekSets_50 rfl (lv_at hl 2 rfl) ?_
            refine va_get (D := (dC, dI)) (ci := 7) (v := .ref rM_r) (C := RX7) (T := TX7) (N := 48) hx hb hts inX7 hown hK hP 0 rfl rfl 15 (by decide) (hts _ wd_155) (fun _ h9 => h9) rfl dX7_seekSets_51 ?_
            refine lv_iconst (v := 3) hx hb dX7_seekSets_54 (by decide) ?_
            refine va_iald hx hb hK hP 1 0 rfl rfl (by unfold vp_in; decide) dX7_seekSets_55 ?_
            refine lv_topi (fun x_2659 ex_2659 => ?_)
            have hG := hG.trans (lt_eq ex_2659)
            have rg_x_2659 := fb_rng x_2659
            have cx_2659 : (fM_r 3).toInt = x_2659.toInt := congrArg Int32.toInt (show fM_r 3 = x_2659 from ex_2659.symm)
            have sx_2659 := r_R.uns
            refine lv_ishl hx hb dX7_seekSets_56 ?_
            refine lv_topi (fun x_2660 ex_2660 => ?_)
            have hG := hG.trans (lt_eq ex_2660)
            have rg_x_2660 := fb_rng x_2660
            have qx_2660 := ti_shl ex_2660 rfl (by omega) (by omega)
            refine lv_icmp_ge (tgt := 153) hx hb dX7_seekSets_57 (by decide) (fun c_2661 => ?_) (fun c_2661 => ?_)
            · skip
              have hG := hG.trans (if_pos c_2661)
              have gc_2661 := ti_le c_2661 rfl rfl
              refine lv_aload_n hx hb dX7_seekSets_153 rfl (lv_at hl 2 rfl) ?_
              refine va_get (D := (dC, dI)) (ci := 7) (v := .int z_2653) (C := RX7) (T := TX7) (N := 48) hx hb hts inX7 hown hK hP 0 rfl rfl 40 (by decide) (hts _ wd_1181) (fun _ h9 => h9) rfl dX7_seekSets_154 ?_
              refine lv_if_ne (tgt := 165) hx hb dX7_seekSets_157 (by decide) (fun c_2662 => ?_) (fun c_2662 => ?_)
              · skip
                have hG := hG.trans (if_neg c_2662)
                have gc_2662 := ti_ne c_2662 rfl kc_0
                refine lv_iload_n hx hb dX7_seekSets_165 rfl (lv_at hl 1 rfl) ?_
                exact wq_i hx hb hr (cI z_2652) ⟨⟨trivial, trivial⟩, (cI_of z_2652)⟩ (fun t ht hW => ⟨z_2653, z_2654, z_2655, f_2656, f_2657, (cI_tup hG), Bw.to hP hD hK ht hW⟩) hS dX7_seekSets_166 hlocks
              · skip
                have hG := hG.trans (if_pos c_2662)
                have gc_2662 := ti_eq c_2662 rfl kc_0
                refine lv_aload_n hx hb dX7_seekSets_160 rfl (lv_at hl 2 rfl) ?_
                refine lv_iconst (v := 0) hx hb dX7_seekSets_161 (by decide) ?_
                refine va_put (D := (dC, dI)) (ci := 7) (v := .int 0) (ty := .int) (C := RX7) (T := TX7) (N := 48) hx hb hts inX7 tyX7 tyX7_ok nmX7 hown hK hP hD hS 0 rfl rfl 42 (by decide) (hts _ wd_1187) (fun _ h9 => h9) rfl (by decide +kernel) rfl rfl (Nat.le_of_ble_eq_true rfl) dX7_seekSets_162 (fun H locs hP hD hS => ?_)
                obtain ⟨hP, hD⟩ := wl2 (ws' := [(oc7 oM iM_thrown rM_tape iM_taped iM_size iM_at iM_end iM_token iM_whole iM_nameSize iM_fault iM_place iM_trouble rM_letters iM_failed iM_hasCourt rM_r rM_fresh rM_told rM_read rM_st rM_undone rM_kept iM_undos iM_images rM_fresher iM_fresherSize iM_scale iM_night rM_heardRow rM_cutRow iM_breaths iM_cutMany iM_allBreaths rM_trial rM_words iM_fewestBreaths iM_orderMany iM_orderSum iM_leastOrder rM_often z_2653 z_2654 0 iM_allWeight iM_enoughWeight iM_worthSum iM_firstRest iM_leastDrawn), (arI rM_r kM_r 287 fM_r), (arI rM_told kM_told 90 fM_told), (arI rM_trial kM_trial 90 f_2656), (arI rM_often kM_often 4 f_2657)]) hP hD rfl
                refine lv_iload_n hx hb dX7_seekSets_165 rfl (lv_at hl 1 rfl) ?_
                exact wq_i hx hb hr (cI z_2652) ⟨⟨trivial, trivial⟩, (cI_of z_2652)⟩ (fun t ht hW => ⟨z_2653, z_2654, 0, f_2656, f_2657, (cI_tup hG), Bw.to hP hD hK ht hW⟩) hS dX7_seekSets_166 hlocks
            · skip
              have hG := hG.trans (if_neg c_2661)
              have gc_2661 := ti_nle c_2661 rfl rfl
              refine lv_aload_n hx hb dX7_seekSets_60 rfl (lv_at hl 2 rfl) ?_
              refine lv_iload_n hx hb dX7_seekSets_61 rfl (lv_at hl 0 rfl) ?_
              have hMs := ml_of hD [true, true, true, true, false] (wc := [(oc7 oM iM_thrown rM_tape iM_taped iM_size iM_at iM_end iM_token iM_whole iM_nameSize iM_fault iM_place iM_trouble rM_letters iM_failed iM_hasCourt rM_r rM_fresh rM_told rM_read rM_st rM_undone rM_kept iM_undos iM_images rM_fresher iM_fresherSize iM_scale iM_night rM_heardRow rM_cutRow iM_breaths iM_cutMany iM_allBreaths rM_trial rM_words iM_fewestBreaths iM_orderMany iM_orderSum iM_leastOrder rM_often z_2653 z_2654 z_2655 iM_allWeight iM_enoughWeight iM_worthSum iM_firstRest iM_leastDrawn), (arI rM_r kM_r 287 fM_r), (arI rM_told kM_told 90 fM_told), (arI rM_trial kM_trial 90 f_2656)]) rfl
              have hFc := va_freeM hD hS hA _ hMs
              refine va_calli (va_runV (As := [.int z_2651]) (rest := []) ⟨hx, hb, hml, hown, hts⟩ (tX7_doesFit l dC dI _ oM iM_thrown rM_tape iM_taped iM_size iM_at iM_end iM_token iM_whole iM_nameSize iM_fault iM_place iM_trouble rM_letters iM_failed iM_hasCourt rM_r fM_r kM_r rM_fresh rM_told fM_told kM_told rM_read rM_st rM_undone rM_kept iM_undos iM_images rM_fresher iM_fresherSize iM_scale iM_night rM_heardRow rM_cutRow iM_breaths iM_cutMany iM_allBreaths rM_trial f_2656 kM_trial rM_words iM_fewestBreaths iM_orderMany iM_orderSum iM_leastOrder rM_often z_2653 z_2654 z_2655 iM_allWeight iM_enoughWeight iM_worthSum iM_firstRest iM_leastDrawn z_2651 b_iM_taped b_iM_size b_iM_end b_iM_failed b_iM_hasCourt b_iM_undos b_iM_images b_iM_scale b_iM_breaths b_iM_cutMany (by assumption) (by assumption) (by assumption) ⟨hth.1, hth.2⟩) (cwV 1 hts (wd_V wd_1188 wd_1189 wd_1190 wd_5 (wd_c wd_1191)) rfl rfl rfl dv_yX7_doesFit_1 ⟨Nat.le_of_ble_eq_true rfl, Nat.le_of_ble_eq_true rfl⟩) ⟨Pw.fb, recvX7 hK hP (q0 := 0) rfl, fun U hU hW => Pw.to (hP.ms _ hMs) (hD.ms _ hMs) (hK.ms [true, true, true, false] rfl) hE hS hFc hU hW⟩ rfl rfl hl.1 rfl (lv_room (Nat.le_of_ble_eq_true rfl)) dX7_seekSets_62 ⟨Nat.le_of_ble_eq_true rfl, Nat.le_of_ble_eq_true rfl⟩) hS (fun q _ h => hFc q h) hFc (fun r u t H locs ht hvm hw hB hz1 hk1 hS => ?_)
              have hru9 := hw.2
              have hw := hw.1
              refine ex_1_1 hB (fun f_2663 e_f_2663_0 hB => ?_)
              obtain ⟨hP, hD⟩ := Bw.goN (ws' := [(oc7 oM iM_thrown rM_tape iM_taped iM_size iM_at iM_end iM_token iM_whole iM_nameSize iM_fault iM_place iM_trouble rM_letters iM_failed iM_hasCourt rM_r rM_fresh rM_told rM_read rM_st rM_undone rM_kept iM_undos iM_images rM_fresher iM_fresherSize iM_scale iM_night rM_heardRow rM_cutRow iM_breaths iM_cutMany iM_allBreaths rM_trial rM_words iM_fewestBreaths iM_orderMany iM_orderSum iM_leastOrder rM_often z_2653 z_2654 z_2655 iM_allWeight iM_enoughWeight iM_worthSum iM_firstRest iM_leastDrawn), (arI rM_r kM_r 287 fM_r), (arI rM_told kM_told 90 fM_told), (arI rM_trial kM_trial 90 f_2663), (arI rM_often kM_often 4 f_2657)]) hB rfl ht hP hD _ hMs hk1 hFc rfl
              clear hz1 hk1 hvm ht hB hMs
              rw [← hru9] at e_f_2663_0
              obtain ⟨x_2664, rfl⟩ : ∃ z, z = r := ⟨_, rfl⟩
              have hG := hG.trans (un2_eq e_f_2663_0)
              have rg_x_2664 := fb_rng x_2664
              have bx_2664 := hw.1
              have dx_2664 := bz_tb bx_2664
              refine lv_if_ne (tgt := 71) hx hb dX7_seekSets_65 (by decide) (fun c_2665 => ?_) (fun c_2665 => ?_)
              · skip
                have hG := hG.trans (if_neg c_2665)
                have gc_2665 := ti_ne c_2665 rfl kc_0
                refine lv_aload_n hx hb dX7_seekSets_71 rfl (lv_at hl 2 rfl) ?_
                refine va_get (D := (dC, dI)) (ci := 7) (v := .int z_2653) (C := RX7) (T := TX7) (N := 48) hx hb hts inX7 hown hK hP 0 rfl rfl 40 (by decide) (hts _ wd_1181) (fun _ h9 => h9) rfl dX7_seekSets_72 ?_
                refine lv_iload_n hx hb dX7_seekSets_75 rfl (lv_at hl 3 rfl) ?_
                refine lv_icmp_ne (tgt := 81) hx hb dX7_seekSets_76 (by decide) (fun c_2666 => ?_) (fun c_2666 => ?_)
                · skip
                  have hG := hG.trans (if_neg c_2666)
                  have gc_2666 := ti_ne c_2666 rfl rfl
                  refine lv_aload_n hx hb dX7_seekSets_81 rfl (lv_at hl 2 rfl) ?_
                  refine lv_dup hx hb dX7_seekSets_82 rfl ?_
                  refine va_get (D := (dC, dI)) (ci := 7) (v := .int z_2653) (C := RX7) (T := TX7) (N := 48) hx hb hts inX7 hown hK hP 0 rfl rfl 40 (by decide) (hts _ wd_1181) (fun _ h9 => h9) rfl dX7_seekSets_83 ?_
                  refine lv_iconst (v := 1) hx hb dX7_seekSets_86 (by decide) ?_
                  refine lv_iadd hx hb dX7_seekSets_87 ?_
                  refine lv_topi (fun x_2667 ex_2667 => ?_)
                  have hG := hG.trans (lt_eq ex_2667)
                  have rg_x_2667 := fb_rng x_2667
                  refine va_put (D := (dC, dI)) (ci := 7) (v := .int x_2667) (ty := .int) (C := RX7) (T := TX7) (N := 48) hx hb hts inX7 tyX7 tyX7_ok nmX7 hown hK hP hD hS 0 rfl rfl 40 (by decide) (hts _ wd_1181) (fun _ h9 => h9) rfl (by decide +kernel) rfl rfl (Nat.le_of_ble_eq_true rfl) dX7_seekSets_88 (fun H locs hP hD hS => ?_)
                  obtain ⟨hP, hD⟩ := wl2 (ws' := [(oc7 oM iM_thrown rM_tape iM_taped iM_size iM_at iM_end iM_token iM_whole iM_nameSize iM_fault iM_place iM_trouble rM_letters iM_failed iM_hasCourt rM_r rM_fresh rM_told rM_read rM_st rM_undone rM_kept iM_undos iM_images rM_fresher iM_fresherSize iM_scale iM_night rM_heardRow rM_cutRow iM_breaths iM_cutMany iM_allBreaths rM_trial rM_words iM_fewestBreaths iM_orderMany iM_orderSum iM_leastOrder rM_often x_2667 z_2654 z_2655 iM_allWeight iM_enoughWeight iM_worthSum iM_firstRest iM_leastDrawn), (arI rM_r kM_r 287 fM_r), (arI rM_told kM_told 90 fM_told), (arI rM_trial kM_trial 90 f_2663), (arI rM_often kM_often 4 f_2657)]) hP hD rfl
                  refine lv_aload_n hx hb dX7_seekSets_91 rfl (lv_at hl 2 rfl) ?_
                  refine lv_dup hx hb dX7_seekSets_92 rfl ?_
                  refine va_get (D := (dC, dI)) (ci := 7) (v := .int z_2654) (C := RX7) (T := TX7) (N := 48) hx hb hts inX7 hown hK hP 0 rfl rfl 41 (by decide) (hts _ wd_1186) (fun _ h9 => h9) rfl dX7_seekSets_93 ?_
                  refine lv_iload_n hx hb dX7_seekSets_96 rfl (lv_at hl 0 rfl) ?_
                  refine lv_ior hx hb dX7_seekSets_97 ?_
                  refine lv_topi (fun x_2668 ex_2668 => ?_)
                  have hG := hG.trans (lt_eq ex_2668)
                  have rg_x_2668 := fb_rng x_2668
                  refine va_put (D := (dC, dI)) (ci := 7) (v := .int x_2668) (ty := .int) (C := RX7) (T := TX7) (N := 48) hx hb hts inX7 tyX7 tyX7_ok nmX7 hown hK hP hD hS 0 rfl rfl 41 (by decide) (hts _ wd_1186) (fun _ h9 => h9) rfl (by decide +kernel) rfl rfl (Nat.le_of_ble_eq_true rfl) dX7_seekSets_98 (fun H locs hP hD hS => ?_)
                  obtain ⟨hP, hD⟩ := wl2 (ws' := [(oc7 oM iM_thrown rM_tape iM_taped iM_size iM_at iM_end iM_token iM_whole iM_nameSize iM_fault iM_place iM_trouble rM_letters iM_failed iM_hasCourt rM_r rM_fresh rM_told rM_read rM_st rM_undone rM_kept iM_undos iM_images rM_fresher iM_fresherSize iM_scale iM_night rM_heardRow rM_cutRow iM_breaths iM_cutMany iM_allBreaths rM_trial rM_words iM_fewestBreaths iM_orderMany iM_orderSum iM_leastOrder rM_often x_2667 x_2668 z_2655 iM_allWeight iM_enoughWeight iM_worthSum iM_firstRest iM_leastDrawn), (arI rM_r kM_r 287 fM_r), (arI rM_told kM_told 90 fM_told), (arI rM_trial kM_trial 90 f_2663), (arI rM_often kM_often 4 f_2657)]) hP hD rfl
                  refine lv_aload_n hx hb dX7_seekSets_101 rfl (lv_at hl 2 rfl) ?_
                  refine lv_dup hx hb dX7_seekSets_102 rfl ?_
                  refine va_get (D := (dC, dI)) (ci := 7) (v := .int z_2655) (C := RX7) (T := TX7) (N := 48) hx hb hts inX7 hown hK hP 0 rfl rfl 42 (by decide) (hts _ wd_1187) (fun _ h9 => h9) rfl dX7_seekSets_103 ?_
                  refine lv_iload_n hx hb dX7_seekSets_106 rfl (lv_at hl 0 rfl) ?_
                  refine lv_iand hx hb dX7_seekSets_107 ?_
                  refine lv_topi (fun x_2669 ex_2669 => ?_)
                  have hG := hG.trans (lt_eq ex_2669)
                  have rg_x_2669 := fb_rng x_2669
                  refine va_put (D := (dC, dI)) (ci := 7) (v := .int x_2669) (ty := .int) (C := RX7) (T := TX7) (N := 48) hx hb hts inX7 tyX7 tyX7_ok nmX7 hown hK hP hD hS 0 rfl rfl 42 (by decide) (hts _ wd_1187) (fun _ h9 => h9) rfl (by decide +kernel) rfl rfl (Nat.le_of_ble_eq_true rfl) dX7_seekSets_108 (fun H locs hP hD hS => ?_)
                  obtain ⟨hP, hD⟩ := wl2 (ws' := [(oc7 oM iM_thrown rM_tape iM_taped iM_size iM_at iM_end iM_token iM_whole iM_nameSize iM_fault iM_place iM_trouble rM_letters iM_failed iM_hasCourt rM_r rM_fresh rM_told rM_read rM_st rM_undone rM_kept iM_undos iM_images rM_fresher iM_fresherSize iM_scale iM_night rM_heardRow rM_cutRow iM_breaths iM_cutMany iM_allBreaths rM_trial rM_words iM_fewestBreaths iM_orderMany iM_orderSum iM_leastOrder rM_often x_2667 x_2668 x_2669 iM_allWeight iM_enoughWeight iM_worthSum iM_firstRest iM_leastDrawn), (arI rM_r kM_r 287 fM_r), (arI rM_told kM_told 90 fM_told), (arI rM_trial kM_trial 90 f_2663), (arI rM_often kM_often 4 f_2657)]) hP hD rfl
                  refine lv_iconst (v := 0) hx hb dX7_seekSets_111 (by decide) ?_
                  refine lv_istore (lv' := [(4, .int 0), (3, .int z_2651), (2, .int z_2652), (0, .ref oM), (1, .int p0)]) hx hb dX7_seekSets_112 hl (by decide) rfl (fun ls hl => ?_)
                  have hl := lv_sub hl (l' := [(4, .int 0), (3, .int z_2651), (2, .int z_2652), (0, .ref oM), (1, .int p0)]) [0, 1, 2, 3, 4] rfl
                  have key_n_2672 : ∀ (n_2672 : Nat) (z_2670 : Int32) (f_2671 : Nat → Int32) (H : Heap) (locs : List Loc) (ls : Array Slot), (0 ≤ z_2670.toInt ∧ z_2670.toInt ≤ 2147483647) → (2147483647 - z_2670.toInt).toNat < n_2672 → (PX7_seekSets fM_r fM_told iM_scale iM_night fM_trial fM_often p0 = HX7_seekSets_3 fM_r z_2651 z_2652 f_2663 x_2667 x_2668 x_2669 (fun (z_2651 : Int32) (z_2652 : Int32) (z_2653 : Int32) (z_2654 : Int32) (z_2655 : Int32) (f_2656 : Nat → Int32) (f_2657 : Nat → Int32) => HX7_seekSets_1 fM_r fM_told iM_scale iM_night p0 n_2658 z_2651 z_2652 z_2653 z_2654 z_2655 f_2656 f_2657) n_2672 z_2670 f_2671) → va_P (dC, dI) vwCl [(oc7 oM iM_thrown rM_tape iM_taped iM_size iM_at iM_end iM_token iM_whole iM_nameSize iM_fault iM_place iM_trouble rM_letters iM_failed iM_hasCourt rM_r rM_fresh rM_told rM_read rM_st rM_undone rM_kept iM_undos iM_images rM_fresher iM_fresherSize iM_scale iM_night rM_heardRow rM_cutRow iM_breaths iM_cutMany iM_allBreaths rM_trial rM_words iM_fewestBreaths iM_orderMany iM_orderSum iM_leastOrder rM_often x_2667 x_2668 x_2669 iM_allWeight iM_enoughWeight iM_worthSum iM_firstRest iM_leastDrawn), (arI rM_r kM_r 287 fM_r), (arI rM_told kM_told 90 fM_told), (arI rM_trial kM_trial 90 f_2663), (arI rM_often kM_often 4 f_2671)] H → va_D A [(oc7 oM iM_thrown rM_tape iM_taped iM_size iM_at iM_end iM_token iM_whole iM_nameSize iM_fault iM_place iM_trouble rM_letters iM_failed iM_hasCourt rM_r rM_fresh rM_told rM_read rM_st rM_undone rM_kept iM_undos iM_images rM_fresher iM_fresherSize iM_scale iM_night rM_heardRow rM_cutRow iM_breaths iM_cutMany iM_allBreaths rM_trial rM_words iM_fewestBreaths iM_orderMany iM_orderSum iM_leastOrder rM_often x_2667 x_2668 x_2669 iM_allWeight iM_enoughWeight iM_worthSum iM_firstRest iM_leastDrawn), (arI rM_r kM_r 287 fM_r), (arI rM_told kM_told 90 fM_told), (arI rM_trial kM_trial 90 f_2663), (arI rM_often kM_often 4 f_2671)] → va_S A s.heap H locs → lv_has ls 5 [(4, .int z_2670), (3, .int z_2651), (2, .int z_2652), (0, .ref oM), (1, .int p0)] → W p l e (headSpec (Cond.code yX7_seekSets cX7_seekSets 5 (some .int) :: wG) ({ frames := 23, cells := 0, slots := 0, locals := 606 })).room s m ([.ref oM, .int p0] : List Value).toArray below meth c H locs 0 0 (MQ below (va_Qi (fun (r : Int32) (u : Nat) => (True ∧ True) ∧ r = Int32.ofNat u) (fun (u : Nat) (t : State) => ∃ (niM_setMany : Int32) (niM_someOf : Int32) (niM_allOf : Int32) (nfM_trial : Nat → Int32) (nfM_often : Nat → Int32), (PX7_seekSets fM_r fM_told iM_scale iM_night fM_trial fM_often p0 = (Int32.ofNat u, niM_setMany, niM_someOf, niM_allOf, nfM_trial, nfM_often)) ∧ Bw dC dI A [(oc7 oM iM_thrown rM_tape iM_taped iM_size iM_at iM_end iM_token iM_whole iM_nameSize iM_fault iM_place iM_trouble rM_letters iM_failed iM_hasCourt rM_r rM_fresh rM_told rM_read rM_st rM_undone rM_kept iM_undos iM_images rM_fresher iM_fresherSize iM_scale iM_night rM_heardRow rM_cutRow iM_breaths iM_cutMany iM_allBreaths rM_trial rM_words iM_fewestBreaths iM_orderMany iM_orderSum iM_leastOrder rM_often niM_setMany niM_someOf niM_allOf iM_allWeight iM_enoughWeight iM_worthSum iM_firstRest iM_leastDrawn), (arI rM_r kM_r 287 fM_r), (arI rM_told kM_told 90 fM_told), (arI rM_trial kM_trial 90 nfM_trial), (arI rM_often kM_often 4 nfM_often)] [(kM_r, .int), (kM_told, .int), (kM_trial, .int), (kM_often, .int)] t) A) ([.ref oM, .int p0] : List Value).toArray s 0 0 A) (F0 m 114 ls []) := by
                    intro n_2672
                    induction n_2672 with
                    | zero => intro z_2670 f_2671 H locs ls hi0_n_2672 hm; exact absurd hm (Nat.not_lt_zero _)
                    | succ n_2672 ih_n_2672 =>
                      intro z_2670 f_2671 H locs ls hi0_n_2672 hm_n_2672 hG hP hD hS hl
                      have hG := hG.trans (HX7_seekSets_3_eq _ _ _ _ _ _ _ _ _ _ _)
                      have rg_z_2670 := fb_rng z_2670
                      refine lv_iload hx hb dX7_seekSets_114 (lv_at hl 0 rfl) ?_
                      refine lv_aload_n hx hb dX7_seekSets_116 rfl (lv_at hl 3 rfl) ?_
                      refine va_get (D := (dC, dI)) (ci := 7) (v := .ref rM_r) (C := RX7) (T := TX7) (N := 48) hx hb hts inX7 hown hK hP 0 rfl rfl 15 (by decide) (hts _ wd_155) (fun _ h9 => h9) rfl dX7_seekSets_117 ?_
                      refine lv_iconst (v := 3) hx hb dX7_seekSets_120 (by decide) ?_
                      refine va_iald hx hb hK hP 1 0 rfl rfl (by unfold vp_in; decide) dX7_seekSets_121 ?_
                      refine lv_topi (fun x_2673 ex_2673 => ?_)
                      have hG := hG.trans (lt_eq ex_2673)
                      have rg_x_2673 := fb_rng x_2673
                      have cx_2673 : (fM_r 3).toInt = x_2673.toInt := congrArg Int32.toInt (show fM_r 3 = x_2673 from ex_2673.symm)
                      have sx_2673 := r_R.uns
                      refine lv_icmp_ge (tgt := 147) hx hb dX7_seekSets_122 (by decide) (fun c_2674 => ?_) (fun c_2674 => ?_)
                      · skip
                        have hG := hG.trans (if_pos c_2674)
                        have gc_2674 := ti_le c_2674 rfl rfl
                        obtain ⟨x_2675, ex_2675⟩ : ∃ z : Int32, z = z_2651 + Int32.ofInt 1 := ⟨_, rfl⟩
                        have hG := hG.trans (lt_eq ex_2675)
                        have vx_2675 : x_2675.toInt = z_2651.toInt + 1 := ti_add (y := 1) ex_2675 rfl kc_1 (om_4e4fce7e hi0_n_2658.1) (om_219cd8d8 rg_x_2660.2 gc_2661)
                        refine lv_iinc (v := x_2675) (lv' := [(3, .int x_2675), (4, .int z_2670), (2, .int z_2652), (0, .ref oM), (1, .int p0)]) hx hb dX7_seekSets_147 hl (k := 1) rfl ex_2675.symm (by decide) rfl (fun ls hl => ?_)
                        refine lv_goto (tgt := 48) hx hb dX7_seekSets_150 (by decide) ?_
                        exact ih_n_2658 x_2675 z_2652 x_2667 x_2668 x_2669 f_2663 f_2671 _ _ _  ⟨(om_83b90de5 hi0_n_2658.1 vx_2675), (om_5c6bfac3 rg_x_2660.2 gc_2661 vx_2675)⟩ (ms_lt hm_n_2658 (om_b9393183 vx_2675) (om_bc4d5040 rg_x_2660.2 gc_2661)) hG hP hD hS (lv_sub hl [0, 2, 3, 4] rfl)
                      · skip
                        have hG := hG.trans (if_neg c_2674)
                        have gc_2674 := ti_nle c_2674 rfl rfl
                        refine lv_aload_n hx hb dX7_seekSets_125 rfl (lv_at hl 3 rfl) ?_
                        refine va_get (D := (dC, dI)) (ci := 7) (v := .ref rM_often) (C := RX7) (T := TX7) (N := 48) hx hb hts inX7 hown hK hP 0 rfl rfl 39 (by decide) (hts _ wd_169) (fun _ h9 => h9) rfl dX7_seekSets_126 ?_
                        refine lv_iload hx hb dX7_seekSets_129 (lv_at hl 0 rfl) ?_
                        refine lv_dup2_11 hx hb dX7_seekSets_131 rfl rfl ?_
                        refine va_iald hx hb hK hP 4 3 rfl rfl (ti_in rfl hi0_n_2672.1 (om_40b90e64 s_uns.2 cx_2673 gc_2674)) dX7_seekSets_132 ?_
                        refine lv_topi (fun x_2676 ex_2676 => ?_)
                        have hG := hG.trans (lt_eq ex_2676)
                        have rg_x_2676 := fb_rng x_2676
                        have kx_2676 : (f_2671 z_2670.toNatClampNeg).toInt = x_2676.toInt := by rw [ex_2676]
                        have cx_2676 := kx_2676
                        refine lv_iload_n hx hb dX7_seekSets_133 rfl (lv_at hl 1 rfl) ?_
                        refine lv_iload hx hb dX7_seekSets_134 (lv_at hl 0 rfl) ?_
                        refine lv_ishr hx hb dX7_seekSets_136 ?_
                        refine lv_topi (fun x_2677 ex_2677 => ?_)
                        have hG := hG.trans (lt_eq ex_2677)
                        have rg_x_2677 := fb_rng x_2677
                        refine lv_iconst (v := 1) hx hb dX7_seekSets_137 (by decide) ?_
                        refine lv_iand hx hb dX7_seekSets_138 ?_
                        refine lv_topi (fun x_2678 ex_2678 => ?_)
                        have hG := hG.trans (lt_eq ex_2678)
                        have rg_x_2678 := fb_rng x_2678
                        refine lv_iadd hx hb dX7_seekSets_139 ?_
                        refine lv_topi (fun x_2679 ex_2679 => ?_)
                        have hG := hG.trans (lt_eq ex_2679)
                        have rg_x_2679 := fb_rng x_2679
                        refine va_iast hx hb hK hP hD hS 4 3 rfl rfl (ti_in rfl hi0_n_2672.1 (om_40b90e64 s_uns.2 cx_2673 gc_2674)) dX7_seekSets_140 (fun H locs hP hD hS => ?_)
                        obtain ⟨f_2681, ef_2681⟩ : ∃ g : Nat → Int32, g = upd f_2671 z_2670.toNatClampNeg x_2679 := ⟨_, rfl⟩
                        rw [← ef_2681] at hP hD
                        have hG := hG.trans (lt_eq ef_2681)
                        obtain ⟨hP, hD⟩ := wl2 (ws' := [(oc7 oM iM_thrown rM_tape iM_taped iM_size iM_at iM_end iM_token iM_whole iM_nameSize iM_fault iM_place iM_trouble rM_letters iM_failed iM_hasCourt rM_r rM_fresh rM_told rM_read rM_st rM_undone rM_kept iM_undos iM_images rM_fresher iM_fresherSize iM_scale iM_night rM_heardRow rM_cutRow iM_breaths iM_cutMany iM_allBreaths rM_trial rM_words iM_fewestBreaths iM_orderMany iM_orderSum iM_leastOrder rM_often x_2667 x_2668 x_2669 iM_allWeight iM_enoughWeight iM_worthSum iM_firstRest iM_leastDrawn), (arI rM_r kM_r 287 fM_r), (arI rM_told kM_told 90 fM_told), (arI rM_trial kM_trial 90 f_2663), (arI rM_often kM_often 4 f_2681)]) hP hD rfl
                        obtain ⟨x_2682, ex_2682⟩ : ∃ z : Int32, z = z_2670 + Int32.ofInt 1 := ⟨_, rfl⟩
                        have hG := hG.trans (lt_eq ex_2682)
                        have vx_2682 : x_2682.toInt = z_2670.toInt + 1 := ti_add (y := 1) ex_2682 rfl kc_1 (om_4e4fce7e hi0_n_2672.1) (om_813b24f4 s_uns.2 cx_2673 gc_2674)
                        refine lv_iinc (v := x_2682) (lv' := [(4, .int x_2682), (3, .int z_2651), (2, .int z_2652), (0, .ref oM), (1, .int p0)]) hx hb dX7_seekSets_141 hl (k := 0) rfl ex_2682.symm (by decide) rfl (fun ls hl => ?_)
                        refine lv_goto (tgt := 114) hx hb dX7_seekSets_144 (by decide) ?_
                        exact ih_n_2672 x_2682 f_2681 _ _ _  ⟨(om_83b90de5 hi0_n_2672.1 vx_2682), (om_2aa83bf6 s_uns.2 cx_2673 gc_2674 vx_2682)⟩ (ms_lt hm_n_2672 (om_b9393183 vx_2682) (om_c1023465 s_uns.2 cx_2673 gc_2674)) hG hP hD hS (lv_sub hl [0, 1, 2, 3, 4] rfl)
                  exact key_n_2672 (((2147483647 - (0 : Int32).toInt).toNat) + 1) 0 f_2657 _ _ _  ⟨(om_b1de7dbe kc_0), (om_daf17c64 kc_0)⟩ (Nat.lt_add_one _) hG hP hD hS hl
                · skip
                  have hG := hG.trans (if_pos c_2666)
                  have gc_2666 := ti_eq c_2666 rfl rfl
                  refine lv_iload_n hx hb dX7_seekSets_79 rfl (lv_at hl 0 rfl) ?_
                  refine lv_istore_n (lv' := [(2, .int z_2651), (3, .int z_2651), (0, .ref oM), (1, .int p0)]) hx hb dX7_seekSets_80 rfl hl (by decide) rfl (fun ls hl => ?_)
                  refine lv_aload_n hx hb dX7_seekSets_81 rfl (lv_at hl 2 rfl) ?_
                  refine lv_dup hx hb dX7_seekSets_82 rfl ?_
                  refine va_get (D := (dC, dI)) (ci := 7) (v := .int z_2653) (C := RX7) (T := TX7) (N := 48) hx hb hts inX7 hown hK hP 0 rfl rfl 40 (by decide) (hts _ wd_1181) (fun _ h9 => h9) rfl dX7_seekSets_83 ?_
                  refine lv_iconst (v := 1) hx hb dX7_seekSets_86 (by decide) ?_
                  refine lv_iadd hx hb dX7_seekSets_87 ?_
                  refine lv_topi (fun x_2683 ex_2683 => ?_)
                  have hG := hG.trans (lt_eq ex_2683)
                  have rg_x_2683 := fb_rng x_2683
                  refine va_put (D := (dC, dI)) (ci := 7) (v := .int x_2683) (ty := .int) (C := RX7) (T := TX7) (N := 48) hx hb hts inX7 tyX7 tyX7_ok nmX7 hown hK hP hD hS 0 rfl rfl 40 (by decide) (hts _ wd_1181) (fun _ h9 => h9) rfl (by decide +kernel) rfl rfl (Nat.le_of_ble_eq_true rfl) dX7_seekSets_88 (fun H locs hP hD hS => ?_)
                  obtain ⟨hP, hD⟩ := wl2 (ws' := [(oc7 oM iM_thrown rM_tape iM_taped iM_size iM_at iM_end iM_token iM_whole iM_nameSize iM_fault iM_place iM_trouble rM_letters iM_failed iM_hasCourt rM_r rM_fresh rM_told rM_read rM_st rM_undone rM_kept iM_undos iM_images rM_fresher iM_fresherSize iM_scale iM_night rM_heardRow rM_cutRow iM_breaths iM_cutMany iM_allBreaths rM_trial rM_words iM_fewestBreaths iM_orderMany iM_orderSum iM_leastOrder rM_often x_2683 z_2654 z_2655 iM_allWeight iM_enoughWeight iM_worthSum iM_firstRest iM_leastDrawn), (arI rM_r kM_r 287 fM_r), (arI rM_told kM_told 90 fM_told), (arI rM_trial kM_trial 90 f_2663), (arI rM_often kM_often 4 f_2657)]) hP hD rfl
                  refine lv_aload_n hx hb dX7_seekSets_91 rfl (lv_at hl 2 rfl) ?_
                  refine lv_dup hx hb dX7_seekSets_92 rfl ?_
                  refine va_get (D := (dC, dI)) (ci := 7) (v := .int z_2654) (C := RX7) (T := TX7) (N := 48) hx hb hts inX7 hown hK hP 0 rfl rfl 41 (by decide) (hts _ wd_1186) (fun _ h9 => h9) rfl dX7_seekSets_93 ?_
                  refine lv_iload_n hx hb dX7_seekSets_96 rfl (lv_at hl 1 rfl) ?_
                  refine lv_ior hx hb dX7_seekSets_97 ?_
                  refine lv_topi (fun x_2684 ex_2684 => ?_)
                  have hG := hG.trans (lt_eq ex_2684)
                  have rg_x_2684 := fb_rng x_2684
                  refine va_put (D := (dC, dI)) (ci := 7) (v := .int x_2684) (ty := .int) (C := RX7) (T := TX7) (N := 48) hx hb hts inX7 tyX7 tyX7_ok nmX7 hown hK hP hD hS 0 rfl rfl 41 (by decide) (hts _ wd_1186) (fun _ h9 => h9) rfl (by decide +kernel) rfl rfl (Nat.le_of_ble_eq_true rfl) dX7_seekSets_98 (fun H locs hP hD hS => ?_)
                  obtain ⟨hP, hD⟩ := wl2 (ws' := [(oc7 oM iM_thrown rM_tape iM_taped iM_size iM_at iM_end iM_token iM_whole iM_nameSize iM_fault iM_place iM_trouble rM_letters iM_failed iM_hasCourt rM_r rM_fresh rM_told rM_read rM_st rM_undone rM_kept iM_undos iM_images rM_fresher iM_fresherSize iM_scale iM_night rM_heardRow rM_cutRow iM_breaths iM_cutMany iM_allBreaths rM_trial rM_words iM_fewestBreaths iM_orderMany iM_orderSum iM_leastOrder rM_often x_2683 x_2684 z_2655 iM_allWeight iM_enoughWeight iM_worthSum iM_firstRest iM_leastDrawn), (arI rM_r kM_r 287 fM_r), (arI rM_told kM_told 90 fM_told), (arI rM_trial kM_trial 90 f_2663), (arI rM_often kM_often 4 f_2657)]) hP hD rfl
                  refine lv_aload_n hx hb dX7_seekSets_101 rfl (lv_at hl 2 rfl) ?_
                  refine lv_dup hx hb dX7_seekSets_102 rfl ?_
                  refine va_get (D := (dC, dI)) (ci := 7) (v := .int z_2655) (C := RX7) (T := TX7) (N := 48) hx hb hts inX7 hown hK hP 0 rfl rfl 42 (by decide) (hts _ wd_1187) (fun _ h9 => h9) rfl dX7_seekSets_103 ?_
                  refine lv_iload_n hx hb dX7_seekSets_106 rfl (lv_at hl 1 rfl) ?_
                  refine lv_iand hx hb dX7_seekSets_107 ?_
                  refine lv_topi (fun x_2685 ex_2685 => ?_)
                  have hG := hG.trans (lt_eq ex_2685)
                  have rg_x_2685 := fb_rng x_2685
                  refine va_put (D := (dC, dI)) (ci := 7) (v := .int x_2685) (ty := .int) (C := RX7) (T := TX7) (N := 48) hx hb hts inX7 tyX7 tyX7_ok nmX7 hown hK hP hD hS 0 rfl rfl 42 (by decide) (hts _ wd_1187) (fun _ h9 => h9) rfl (by decide +kernel) rfl rfl (Nat.le_of_ble_eq_true rfl) dX7_seekSets_108 (fun H locs hP hD hS => ?_)
                  obtain ⟨hP, hD⟩ := wl2 (ws' := [(oc7 oM iM_thrown rM_tape iM_taped iM_size iM_at iM_end iM_token iM_whole iM_nameSize iM_fault iM_place iM_trouble rM_letters iM_failed iM_hasCourt rM_r rM_fresh rM_told rM_read rM_st rM_undone rM_kept iM_undos iM_images rM_fresher iM_fresherSize iM_scale iM_night rM_heardRow rM_cutRow iM_breaths iM_cutMany iM_allBreaths rM_trial rM_words iM_fewestBreaths iM_orderMany iM_orderSum iM_leastOrder rM_often x_2683 x_2684 x_2685 iM_allWeight iM_enoughWeight iM_worthSum iM_firstRest iM_leastDrawn), (arI rM_r kM_r 287 fM_r), (arI rM_told kM_told 90 fM_told), (arI rM_trial kM_trial 90 f_2663), (arI rM_often kM_often 4 f_2657)]) hP hD rfl
                  refine lv_iconst (v := 0) hx hb dX7_seekSets_111 (by decide) ?_
                  refine lv_istore (lv' := [(4, .int 0), (2, .int z_2651), (3, .int z_2651), (0, .ref oM), (1, .int p0)]) hx hb dX7_seekSets_112 hl (by decide) rfl (fun ls hl => ?_)
                  have hl := lv_sub hl (l' := [(4, .int 0), (2, .int z_2651), (3, .int z_2651), (0, .ref oM), (1, .int p0)]) [0, 1, 2, 3, 4] rfl
                  have key_n_2688 : ∀ (n_2688 : Nat) (z_2686 : Int32) (f_2687 : Nat → Int32) (H : Heap) (locs : List Loc) (ls : Array Slot), (0 ≤ z_2686.toInt ∧ z_2686.toInt ≤ 2147483647) → (2147483647 - z_2686.toInt).toNat < n_2688 → (PX7_seekSets fM_r fM_told iM_scale iM_night fM_trial fM_often p0 = HX7_seekSets_2 fM_r z_2651 f_2663 x_2683 x_2684 x_2685 (fun (z_2651 : Int32) (z_2652 : Int32) (z_2653 : Int32) (z_2654 : Int32) (z_2655 : Int32) (f_2656 : Nat → Int32) (f_2657 : Nat → Int32) => HX7_seekSets_1 fM_r fM_told iM_scale iM_night p0 n_2658 z_2651 z_2652 z_2653 z_2654 z_2655 f_2656 f_2657) n_2688 z_2686 f_2687) → va_P (dC, dI) vwCl [(oc7 oM iM_thrown rM_tape iM_taped iM_size iM_at iM_end iM_token iM_whole iM_nameSize iM_fault iM_place iM_trouble rM_letters iM_failed iM_hasCourt rM_r rM_fresh rM_told rM_read rM_st rM_undone rM_kept iM_undos iM_images rM_fresher iM_fresherSize iM_scale iM_night rM_heardRow rM_cutRow iM_breaths iM_cutMany iM_allBreaths rM_trial rM_words iM_fewestBreaths iM_orderMany iM_orderSum iM_leastOrder rM_often x_2683 x_2684 x_2685 iM_allWeight iM_enoughWeight iM_worthSum iM_firstRest iM_leastDrawn), (arI rM_r kM_r 287 fM_r), (arI rM_told kM_told 90 fM_told), (arI rM_trial kM_trial 90 f_2663), (arI rM_often kM_often 4 f_2687)] H → va_D A [(oc7 oM iM_thrown rM_tape iM_taped iM_size iM_at iM_end iM_token iM_whole iM_nameSize iM_fault iM_place iM_trouble rM_letters iM_failed iM_hasCourt rM_r rM_fresh rM_told rM_read rM_st rM_undone rM_kept iM_undos iM_images rM_fresher iM_fresherSize iM_scale iM_night rM_heardRow rM_cutRow iM_breaths iM_cutMany iM_allBreaths rM_trial rM_words iM_fewestBreaths iM_orderMany iM_orderSum iM_leastOrder rM_often x_2683 x_2684 x_2685 iM_allWeight iM_enoughWeight iM_worthSum iM_firstRest iM_leastDrawn), (arI rM_r kM_r 287 fM_r), (arI rM_told kM_told 90 fM_told), (arI rM_trial kM_trial 90 f_2663), (arI rM_often kM_often 4 f_2687)] → va_S A s.heap H locs → lv_has ls 5 [(4, .int z_2686), (2, .int z_2651), (3, .int z_2651), (0, .ref oM), (1, .int p0)] → W p l e (headSpec (Cond.code yX7_seekSets cX7_seekSets 5 (some .int) :: wG) ({ frames := 23, cells := 0, slots := 0, locals := 606 })).room s m ([.ref oM, .int p0] : List Value).toArray below meth c H locs 0 0 (MQ below (va_Qi (fun (r : Int32) (u : Nat) => (True ∧ True) ∧ r = Int32.ofNat u) (fun (u : Nat) (t : State) => ∃ (niM_setMany : Int32) (niM_someOf : Int32) (niM_allOf : Int32) (nfM_trial : Nat → Int32) (nfM_often : Nat → Int32), (PX7_seekSets fM_r fM_told iM_scale iM_night fM_trial fM_often p0 = (Int32.ofNat u, niM_setMany, niM_someOf, niM_allOf, nfM_trial, nfM_often)) ∧ Bw dC dI A [(oc7 oM iM_thrown rM_tape iM_taped iM_size iM_at iM_end iM_token iM_whole iM_nameSize iM_fault iM_place iM_trouble rM_letters iM_failed iM_hasCourt rM_r rM_fresh rM_told rM_read rM_st rM_undone rM_kept iM_undos iM_images rM_fresher iM_fresherSize iM_scale iM_night rM_heardRow rM_cutRow iM_breaths iM_cutMany iM_allBreaths rM_trial rM_words iM_fewestBreaths iM_orderMany iM_orderSum iM_leastOrder rM_often niM_setMany niM_someOf niM_allOf iM_allWeight iM_enoughWeight iM_worthSum iM_firstRest iM_leastDrawn), (arI rM_r kM_r 287 fM_r), (arI rM_told kM_told 90 fM_told), (arI rM_trial kM_trial 90 nfM_trial), (arI rM_often kM_often 4 nfM_often)] [(kM_r, .int), (kM_told, .int), (kM_trial, .int), (kM_often, .int)] t) A) ([.ref oM, .int p0] : List Value).toArray s 0 0 A) (F0 m 114 ls []) := by
                    intro n_2688
                    induction n_2688 with
                    | zero => intro z_2686 f_2687 H locs ls hi0_n_2688 hm; exact absurd hm (Nat.not_lt_zero _)
                    | succ n_2688 ih_n_2688 =>
                      intro z_2686 f_2687 H locs ls hi0_n_2688 hm_n_2688 hG hP hD hS hl
                      have hG := hG.trans (HX7_seekSets_2_eq _ _ _ _ _ _ _ _ _ _)
                      have rg_z_2686 := fb_rng z_2686
                      refine lv_iload hx hb dX7_seekSets_114 (lv_at hl 0 rfl) ?_
                      refine lv_aload_n hx hb dX7_seekSets_116 rfl (lv_at hl 3 rfl) ?_
                      refine va_get (D := (dC, dI)) (ci := 7) (v := .ref rM_r) (C := RX7) (T := TX7) (N := 48) hx hb hts inX7 hown hK hP 0 rfl rfl 15 (by decide) (hts _ wd_155) (fun _ h9 => h9) rfl dX7_seekSets_117 ?_
                      refine lv_iconst (v := 3) hx hb dX7_seekSets_120 (by decide) ?_
                      refine va_iald hx hb hK hP 1 0 rfl rfl (by unfold vp_in; decide) dX7_seekSets_121 ?_
                      refine lv_topi (fun x_2689 ex_2689 => ?_)
                      have hG := hG.trans (lt_eq ex_2689)
                      have rg_x_2689 := fb_rng x_2689
                      have cx_2689 : (fM_r 3).toInt = x_2689.toInt := congrArg Int32.toInt (show fM_r 3 = x_2689 from ex_2689.symm)
                      have sx_2689 := r_R.uns
                      refine lv_icmp_ge (tgt := 147) hx hb dX7_seekSets_122 (by decide) (fun c_2690 => ?_) (fun c_2690 => ?_)
                      · skip
                        have hG := hG.trans (if_pos c_2690)
                        have gc_2690 := ti_le c_2690 rfl rfl
                        obtain ⟨x_2691, ex_2691⟩ : ∃ z : Int32, z = z_2651 + Int32.ofInt 1 := ⟨_, rfl⟩
                        have hG := hG.trans (lt_eq ex_2691)
                        have vx_2691 : x_2691.toInt = z_2651.toInt + 1 := ti_add (y := 1) ex_2691 rfl kc_1 (om_4e4fce7e hi0_n_2658.1) (om_219cd8d8 rg_x_2660.2 gc_2661)
                        refine lv_iinc (v := x_2691) (lv' := [(3, .int x_2691), (4, .int z_2686), (2, .int z_2651), (0, .ref oM), (1, .int p0)]) hx hb dX7_seekSets_147 hl (k := 2) rfl ex_2691.symm (by decide) rfl (fun ls hl => ?_)
                        refine lv_goto (tgt := 48) hx hb dX7_seekSets_150 (by decide) ?_
                        exact ih_n_2658 x_2691 z_2651 x_2683 x_2684 x_2685 f_2663 f_2687 _ _ _  ⟨(om_83b90de5 hi0_n_2658.1 vx_2691), (om_5c6bfac3 rg_x_2660.2 gc_2661 vx_2691)⟩ (ms_lt hm_n_2658 (om_b9393183 vx_2691) (om_bc4d5040 rg_x_2660.2 gc_2661)) hG hP hD hS (lv_sub hl [0, 2, 3, 4] rfl)
                      · skip
                        have hG := hG.trans (if_neg c_2690)
                        have gc_2690 := ti_nle c_2690 rfl rfl
                        refine lv_aload_n hx hb dX7_seekSets_125 rfl (lv_at hl 3 rfl) ?_
                        refine va_get (D := (dC, dI)) (ci := 7) (v := .ref rM_often) (C := RX7) (T := TX7) (N := 48) hx hb hts inX7 hown hK hP 0 rfl rfl 39 (by decide) (hts _ wd_169) (fun _ h9 => h9) rfl dX7_seekSets_126 ?_
                        refine lv_iload hx hb dX7_seekSets_129 (lv_at hl 0 rfl) ?_
                        refine lv_dup2_11 hx hb dX7_seekSets_131 rfl rfl ?_
                        refine va_iald hx hb hK hP 4 3 rfl rfl (ti_in rfl hi0_n_2688.1 (om_40b90e64 s_uns.2 cx_2689 gc_2690)) dX7_seekSets_132 ?_
                        refine lv_topi (fun x_2692 ex_2692 => ?_)
                        have hG := hG.trans (lt_eq ex_2692)
                        have rg_x_2692 := fb_rng x_2692
                        have kx_2692 : (f_2687 z_2686.toNatClampNeg).toInt = x_2692.toInt := by rw [ex_2692]
                        have cx_2692 := kx_2692
                        refine lv_iload_n hx hb dX7_seekSets_133 rfl (lv_at hl 2 rfl) ?_
                        refine lv_iload hx hb dX7_seekSets_134 (lv_at hl 0 rfl) ?_
                        refine lv_ishr hx hb dX7_seekSets_136 ?_
                        refine lv_topi (fun x_2693 ex_2693 => ?_)
                        have hG := hG.trans (lt_eq ex_2693)
                        have rg_x_2693 := fb_rng x_2693
                        refine lv_iconst (v := 1) hx hb dX7_seekSets_137 (by decide) ?_
                        refine lv_iand hx hb dX7_seekSets_138 ?_
                        refine lv_topi (fun x_2694 ex_2694 => ?_)
                        have hG := hG.trans (lt_eq ex_2694)
                        have rg_x_2694 := fb_rng x_2694
                        refine lv_iadd hx hb dX7_seekSets_139 ?_
                        refine lv_topi (fun x_2695 ex_2695 => ?_)
                        have hG := hG.trans (lt_eq ex_2695)
                        have rg_x_2695 := fb_rng x_2695
                        refine va_iast hx hb hK hP hD hS 4 3 rfl rfl (ti_in rfl hi0_n_2688.1 (om_40b90e64 s_uns.2 cx_2689 gc_2690)) dX7_seekSets_140 (fun H locs hP hD hS => ?_)
                        obtain ⟨f_2697, ef_2697⟩ : ∃ g : Nat → Int32, g = upd f_2687 z_2686.toNatClampNeg x_2695 := ⟨_, rfl⟩
                        rw [← ef_2697] at hP hD
                        have hG := hG.trans (lt_eq ef_2697)
                        obtain ⟨hP, hD⟩ := wl2 (ws' := [(oc7 oM iM_thrown rM_tape iM_taped iM_size iM_at iM_end iM_token iM_whole iM_nameSize iM_fault iM_place iM_trouble rM_letters iM_failed iM_hasCourt rM_r rM_fresh rM_told rM_read rM_st rM_undone rM_kept iM_undos iM_images rM_fresher iM_fresherSize iM_scale iM_night rM_heardRow rM_cutRow iM_breaths iM_cutMany iM_allBreaths rM_trial rM_words iM_fewestBreaths iM_orderMany iM_orderSum iM_leastOrder rM_often x_2683 x_2684 x_2685 iM_allWeight iM_enoughWeight iM_worthSum iM_firstRest iM_leastDrawn), (arI rM_r kM_r 287 fM_r), (arI rM_told kM_told 90 fM_told), (arI rM_trial kM_trial 90 f_2663), (arI rM_often kM_often 4 f_2697)]) hP hD rfl
                        obtain ⟨x_2698, ex_2698⟩ : ∃ z : Int32, z = z_2686 + Int32.ofInt 1 := ⟨_, rfl⟩
                        have hG := hG.trans (lt_eq ex_2698)
                        have vx_2698 : x_2698.toInt = z_2686.toInt + 1 := ti_add (y := 1) ex_2698 rfl kc_1 (om_4e4fce7e hi0_n_2688.1) (om_813b24f4 s_uns.2 cx_2689 gc_2690)
                        refine lv_iinc (v := x_2698) (lv' := [(4, .int x_2698), (2, .int z_2651), (3, .int z_2651), (0, .ref oM), (1, .int p0)]) hx hb dX7_seekSets_141 hl (k := 0) rfl ex_2698.symm (by decide) rfl (fun ls hl => ?_)
                        refine lv_goto (tgt := 114) hx hb dX7_seekSets_144 (by decide) ?_
                        exact ih_n_2688 x_2698 f_2697 _ _ _  ⟨(om_83b90de5 hi0_n_2688.1 vx_2698), (om_2aa83bf6 s_uns.2 cx_2689 gc_2690 vx_2698)⟩ (ms_lt hm_n_2688 (om_b9393183 vx_2698) (om_c1023465 s_uns.2 cx_2689 gc_2690)) hG hP hD hS (lv_sub hl [0, 1, 2, 3, 4] rfl)
                  exact key_n_2688 (((2147483647 - (0 : Int32).toInt).toNat) + 1) 0 f_2657 _ _ _  ⟨(om_b1de7dbe kc_0), (om_daf17c64 kc_0)⟩ (Nat.lt_add_one _) hG hP hD hS hl
              · skip
                have hG := hG.trans (if_pos c_2665)
                have gc_2665 := ti_eq c_2665 rfl kc_0
                refine lv_goto (tgt := 147) hx hb dX7_seekSets_68 (by decide) ?_
                obtain ⟨x_2699, ex_2699⟩ : ∃ z : Int32, z = z_2651 + Int32.ofInt 1 := ⟨_, rfl⟩
                have hG := hG.trans (lt_eq ex_2699)
                have vx_2699 : x_2699.toInt = z_2651.toInt + 1 := ti_add (y := 1) ex_2699 rfl kc_1 (om_4e4fce7e hi0_n_2658.1) (om_219cd8d8 rg_x_2660.2 gc_2661)
                refine lv_iinc (v := x_2699) (lv' := [(3, .int x_2699), (2, .int z_2652), (0, .ref oM), (1, .int p0)]) hx hb dX7_seekSets_147 hl (k := 0) rfl ex_2699.symm (by decide) rfl (fun ls hl => ?_)
                refine lv_goto (tgt := 48) hx hb dX7_seekSets_150 (by decide) ?_
                exact ih_n_2658 x_2699 z_2652 z_2653 z_2654 z_2655 f_2663 f_2657 _ _ _  ⟨(om_83b90de5 hi0_n_2658.1 vx_2699), (om_5c6bfac3 rg_x_2660.2 gc_2661 vx_2699)⟩ (ms_lt hm_n_2658 (om_b9393183 vx_2699) (om_bc4d5040 rg_x_2660.2 gc_2661)) hG hP hD hS (lv_sub hl [0, 1, 2, 3] rfl)
        exact key_n_2658 (((2147483647 - (0 : Int32).toInt).toNat) + 1) 0 (-1) 0 0 x_2646 fM_trial f_2648 _ _ _  ⟨(om_b1de7dbe kc_0), (om_daf17c64 kc_0)⟩ (Nat.lt_add_one _) hG hP hD hS hl
      · skip
        have hG := hG.trans (if_neg c_2650)
        have gc_2650 := ti_nle c_2650 kc_4 rfl
        refine lv_aload_n hx hb dX7_seekSets_33 rfl (lv_at hl 2 rfl) ?_
        refine va_get (D := (dC, dI)) (ci := 7) (v := .ref rM_often) (C := RX7) (T := TX7) (N := 48) hx hb hts inX7 hown hK hP 0 rfl rfl 39 (by decide) (hts _ wd_169) (fun _ h9 => h9) rfl dX7_seekSets_34 ?_
        refine lv_iload_n hx hb dX7_seekSets_37 rfl (lv_at hl 0 rfl) ?_
        refine lv_iconst (v := 0) hx hb dX7_seekSets_38 (by decide) ?_
        refine va_iast hx hb hK hP hD hS 4 3 rfl rfl (ti_in rfl hi0_n_2649.1 (om_289cd1d9 gc_2650)) dX7_seekSets_39 (fun H locs hP hD hS => ?_)
        obtain ⟨f_2701, ef_2701⟩ : ∃ g : Nat → Int32, g = upd f_2648 z_2647.toNatClampNeg (0 : Int32) := ⟨_, rfl⟩
        rw [← ef_2701] at hP hD
        have hG := hG.trans (lt_eq ef_2701)
        obtain ⟨hP, hD⟩ := wl2 (ws' := [(oc7 oM iM_thrown rM_tape iM_taped iM_size iM_at iM_end iM_token iM_whole iM_nameSize iM_fault iM_place iM_trouble rM_letters iM_failed iM_hasCourt rM_r rM_fresh rM_told rM_read rM_st rM_undone rM_kept iM_undos iM_images rM_fresher iM_fresherSize iM_scale iM_night rM_heardRow rM_cutRow iM_breaths iM_cutMany iM_allBreaths rM_trial rM_words iM_fewestBreaths iM_orderMany iM_orderSum iM_leastOrder rM_often 0 0 x_2646 iM_allWeight iM_enoughWeight iM_worthSum iM_firstRest iM_leastDrawn), (arI rM_r kM_r 287 fM_r), (arI rM_told kM_told 90 fM_told), (arI rM_trial kM_trial 90 fM_trial), (arI rM_often kM_often 4 f_2701)]) hP hD rfl
        obtain ⟨x_2702, ex_2702⟩ : ∃ z : Int32, z = z_2647 + Int32.ofInt 1 := ⟨_, rfl⟩
        have hG := hG.trans (lt_eq ex_2702)
        have vx_2702 : x_2702.toInt = z_2647.toInt + 1 := ti_add (y := 1) ex_2702 rfl kc_1 (om_4e4fce7e hi0_n_2649.1) (om_71ed274a gc_2650)
        refine lv_iinc (v := x_2702) (lv' := [(3, .int x_2702), (2, .int (-1)), (0, .ref oM), (1, .int p0)]) hx hb dX7_seekSets_40 hl (k := 0) rfl ex_2702.symm (by decide) rfl (fun ls hl => ?_)
        refine lv_goto (tgt := 28) hx hb dX7_seekSets_43 (by decide) ?_
        exact ih_n_2649 x_2702 f_2701 _ _ _  ⟨(om_83b90de5 hi0_n_2649.1 vx_2702), (om_d99ff3f9 gc_2650 vx_2702)⟩ (ms_lt hm_n_2649 (om_b9393183 vx_2702) (om_50af1673 gc_2650)) hG hP hD hS (lv_sub hl [0, 1, 2, 3] rfl)
  exact key_n_2649 (((2147483647 - (0 : Int32).toInt).toNat) + 1) 0 fM_often _ _ _  ⟨(om_b1de7dbe kc_0), (om_daf17c64 kc_0)⟩ (Nat.lt_add_one _) hG hP hD hS hl
set_option maxHeartbeats 4000000 in
set_option maxRecDepth 100000 in
theorem tX7_leavesOf (l : Launch) (dC : Nat → ClassId) (dI : Nat → Nat → Nat) (sz : Nat) (oM : Nat) (iM_thrown : Int32) (rM_tape : Nat) (iM_taped : Int32) (iM_size : Int32) (iM_at : Int32) (iM_end : Int32) (iM_token : Int32) (iM_whole : Int32) (iM_nameSize : Int32) (iM_fault : Int32) (iM_place : Int32) (iM_trouble : Int32) (rM_letters : Nat) (iM_failed : Int32) (iM_hasCourt : Int32) (rM_r : Nat) (rM_fresh : Nat) (rM_told : Nat) (rM_read : Nat) (rM_st : Nat) (rM_undone : Nat) (rM_kept : Nat) (iM_undos : Int32) (iM_images : Int32) (rM_fresher : Nat) (iM_fresherSize : Int32) (iM_scale : Int32) (iM_night : Int32) (rM_heardRow : Nat) (rM_cutRow : Nat) (iM_breaths : Int32) (iM_cutMany : Int32) (iM_allBreaths : Int32) (rM_trial : Nat) (rM_words : Nat) (iM_fewestBreaths : Int32) (iM_orderMany : Int32) (iM_orderSum : Int32) (iM_leastOrder : Int32) (rM_often : Nat) (fM_often : Nat → Int32) (kM_often : ClassId) (iM_setMany : Int32) (iM_someOf : Int32) (iM_allOf : Int32) (iM_allWeight : Int64) (iM_enoughWeight : Int64) (iM_worthSum : Int64) (iM_firstRest : Int32) (iM_leastDrawn : Int32) (p0 : Int32) (b_iM_taped : 0 ≤ iM_taped.toInt ∧ iM_taped.toInt ≤ 900) (b_iM_size : 0 ≤ iM_size.toInt ∧ iM_size.toInt ≤ 900) (b_iM_end : 0 ≤ iM_end.toInt ∧ iM_end.toInt ≤ 900) (b_iM_failed : 0 ≤ iM_failed.toInt ∧ iM_failed.toInt ≤ 1) (b_iM_hasCourt : 0 ≤ iM_hasCourt.toInt ∧ iM_hasCourt.toInt ≤ 1) (b_iM_undos : 0 ≤ iM_undos.toInt ∧ iM_undos.toInt ≤ 16) (b_iM_images : 0 ≤ iM_images.toInt ∧ iM_images.toInt ≤ 3) (b_iM_scale : 1 ≤ iM_scale.toInt ∧ iM_scale.toInt ≤ 1296) (b_iM_breaths : 0 ≤ iM_breaths.toInt ∧ iM_breaths.toInt ≤ 399) (b_iM_cutMany : 0 ≤ iM_cutMany.toInt ∧ iM_cutMany.toInt ≤ 399) (hp0 : 0 ≤ p0.toInt ∧ p0.toInt ≤ 3) : Met l yX7_leavesOf (Cond.code yX7_leavesOf cX7_leavesOf 2 (some .int) :: wG) ({ frames := 0, cells := 0, slots := 0, locals := 0 }) (va_Pc [.ref oM, .int p0] (Pw dC dI sz [(oc7 oM iM_thrown rM_tape iM_taped iM_size iM_at iM_end iM_token iM_whole iM_nameSize iM_fault iM_place iM_trouble rM_letters iM_failed iM_hasCourt rM_r rM_fresh rM_told rM_read rM_st rM_undone rM_kept iM_undos iM_images rM_fresher iM_fresherSize iM_scale iM_night rM_heardRow rM_cutRow iM_breaths iM_cutMany iM_allBreaths rM_trial rM_words iM_fewestBreaths iM_orderMany iM_orderSum iM_leastOrder rM_often iM_setMany iM_someOf iM_allOf iM_allWeight iM_enoughWeight iM_worthSum iM_firstRest iM_leastDrawn), (arI rM_often kM_often 4 fM_often)] [(kM_often, .int)])) (va_Qi (fun (r : Int32) (_ : Nat) => (True ∧ True) ∧ PX7_leavesOf fM_often iM_setMany p0 = r) (fun (_ : Nat) (t : State) => Bw dC dI (va_A [(oc7 oM iM_thrown rM_tape iM_taped iM_size iM_at iM_end iM_token iM_whole iM_nameSize iM_fault iM_place iM_trouble rM_letters iM_failed iM_hasCourt rM_r rM_fresh rM_told rM_read rM_st rM_undone rM_kept iM_undos iM_images rM_fresher iM_fresherSize iM_scale iM_night rM_heardRow rM_cutRow iM_breaths iM_cutMany iM_allBreaths rM_trial rM_words iM_fewestBreaths iM_orderMany iM_orderSum iM_leastOrder rM_often iM_setMany iM_someOf iM_allOf iM_allWeight iM_enoughWeight iM_worthSum iM_firstRest iM_leastDrawn), (arI rM_often kM_often 4 fM_often)] sz) [(oc7 oM iM_thrown rM_tape iM_taped iM_size iM_at iM_end iM_token iM_whole iM_nameSize iM_fault iM_place iM_trouble rM_letters iM_failed iM_hasCourt rM_r rM_fresh rM_told rM_read rM_st rM_undone rM_kept iM_undos iM_images rM_fresher iM_fresherSize iM_scale iM_night rM_heardRow rM_cutRow iM_breaths iM_cutMany iM_allBreaths rM_trial rM_words iM_fewestBreaths iM_orderMany iM_orderSum iM_leastOrder rM_often iM_setMany iM_someOf iM_allOf iM_allWeight iM_enoughWeight iM_worthSum iM_firstRest iM_leastDrawn), (arI rM_often kM_often 4 fM_often)] [(kM_often, .int)] t) (va_A [(oc7 oM iM_thrown rM_tape iM_taped iM_size iM_at iM_end iM_token iM_whole iM_nameSize iM_fault iM_place iM_trouble rM_letters iM_failed iM_hasCourt rM_r rM_fresh rM_told rM_read rM_st rM_undone rM_kept iM_undos iM_images rM_fresher iM_fresherSize iM_scale iM_night rM_heardRow rM_cutRow iM_breaths iM_cutMany iM_allBreaths rM_trial rM_words iM_fewestBreaths iM_orderMany iM_orderSum iM_leastOrder rM_often iM_setMany iM_someOf iM_allOf iM_allWeight iM_enoughWeight iM_worthSum iM_firstRest iM_leastDrawn), (arI rM_often kM_often 4 fM_often)] sz)) 0 0 (va_A [(oc7 oM iM_thrown rM_tape iM_taped iM_size iM_at iM_end iM_token iM_whole iM_nameSize iM_fault iM_place iM_trouble rM_letters iM_failed iM_hasCourt rM_r rM_fresh rM_told rM_read rM_st rM_undone rM_kept iM_undos iM_images rM_fresher iM_fresherSize iM_scale iM_night rM_heardRow rM_cutRow iM_breaths iM_cutMany iM_allBreaths rM_trial rM_words iM_fewestBreaths iM_orderMany iM_orderSum iM_leastOrder rM_often iM_setMany iM_someOf iM_allOf iM_allWeight iM_enoughWeight iM_worthSum iM_firstRest iM_leastDrawn), (arI rM_often kM_often 4 fM_often)] sz) := by
  refine Met.ofW (cc := cX7_leavesOf) (maxL := 2) (ret := (some .int)) pnX7 rfl ?_
  intro p e s m args below meth c s₁ B hml hv
  obtain ⟨rfl, hsz, hP, hK, hD0, hE⟩ := hv
  have hx := B.exec
  have hb := B.bytes
  have hr := B.returns
  have hts : ∀ w ∈ wG, w.before ([.ref oM, .int p0] : List Value).toArray s = true := fun w h => atoms_spec (ws := Cond.code yX7_leavesOf cX7_leavesOf 2 (some .int) :: wG) B.pre w (List.mem_cons_of_mem _ h)
  have hown : s.vm.findClass RX7 = some m.cls := own_of B.named rfl
  have hlocks := B.notSynchronized
  subst hsz
  have hD := hD0.self (sz := s.heap.size)
  generalize hAe : va_A [(oc7 oM iM_thrown rM_tape iM_taped iM_size iM_at iM_end iM_token iM_whole iM_nameSize iM_fault iM_place iM_trouble rM_letters iM_failed iM_hasCourt rM_r rM_fresh rM_told rM_read rM_st rM_undone rM_kept iM_undos iM_images rM_fresher iM_fresherSize iM_scale iM_night rM_heardRow rM_cutRow iM_breaths iM_cutMany iM_allBreaths rM_trial rM_words iM_fewestBreaths iM_orderMany iM_orderSum iM_leastOrder rM_often iM_setMany iM_someOf iM_allOf iM_allWeight iM_enoughWeight iM_worthSum iM_firstRest iM_leastDrawn), (arI rM_often kM_often 4 fM_often)] s.heap.size = A at hD hE ⊢
  have hA : ∀ q : Nat, s.heap.size ≤ q → A q := fun q h => by rw [← hAe]; exact Or.inr h
  have hS : va_S A s.heap s.heap [] := va_S.rf
  have hl := lv_entry ([.ref oM, .int p0]) (n := 2) (Nat.le_of_ble_eq_true rfl)
  rw [lg_entry_eq]
  generalize (lg_sl ([.ref oM, .int p0]) ++ List.replicate (2 - (lg_sl ([.ref oM, .int p0])).length) Slot.unset).toArray = ls at hl ⊢
  have hl : lv_has ls 2 [(0, .ref oM), (1, .int p0)] := hl
  have hG := PX7_leavesOf_eq fM_often iM_setMany p0
  refine lv_aload_n hx hb dX7_leavesOf_0 rfl (lv_at hl 0 rfl) ?_
  refine va_get (D := (dC, dI)) (ci := 7) (v := .ref rM_often) (C := RX7) (T := TX7) (N := 48) hx hb hts inX7 hown hK hP 0 rfl rfl 39 (by decide) (hts _ wd_169) (fun _ h9 => h9) rfl dX7_leavesOf_1 ?_
  refine lv_iload_n hx hb dX7_leavesOf_4 rfl (lv_at hl 1 rfl) ?_
  refine va_iald hx hb hK hP 1 0 rfl rfl (ti_in rfl hp0.1 (om_27df6bf1 hp0.2)) dX7_leavesOf_5 ?_
  refine lv_topi (fun x_2710 ex_2710 => ?_)
  have hG := hG.trans (lt_eq ex_2710)
  have kx_2710 : (fM_often p0.toNatClampNeg).toInt = x_2710.toInt := by rw [ex_2710]
  have cx_2710 := kx_2710
  refine lv_aload_n hx hb dX7_leavesOf_6 rfl (lv_at hl 0 rfl) ?_
  refine va_get (D := (dC, dI)) (ci := 7) (v := .int iM_setMany) (C := RX7) (T := TX7) (N := 48) hx hb hts inX7 hown hK hP 0 rfl rfl 40 (by decide) (hts _ wd_1181) (fun _ h9 => h9) rfl dX7_leavesOf_7 ?_
  refine lv_aload_n hx hb dX7_leavesOf_10 rfl (lv_at hl 0 rfl) ?_
  refine va_get (D := (dC, dI)) (ci := 7) (v := .ref rM_often) (C := RX7) (T := TX7) (N := 48) hx hb hts inX7 hown hK hP 0 rfl rfl 39 (by decide) (hts _ wd_169) (fun _ h9 => h9) rfl dX7_leavesOf_11 ?_
  refine lv_iload_n hx hb dX7_leavesOf_14 rfl (lv_at hl 1 rfl) ?_
  refine va_iald hx hb hK hP 1 0 rfl rfl (ti_in rfl hp0.1 (om_27df6bf1 hp0.2)) dX7_leavesOf_15 ?_
  refine lv_topi (fun x_2711 ex_2711 => ?_)
  have hG := hG.trans (lt_eq ex_2711)
  have kx_2711 : (fM_often p0.toNatClampNeg).toInt = x_2711.toInt := by rw [ex_2711]
  have cx_2711 := kx_2711
  refine lv_isub hx hb dX7_leavesOf_16 ?_
  refine lv_topi (fun x_2712 ex_2712 => ?_)
  have hG := hG.trans (lt_eq ex_2712)
  refine lv_icmp_le (tgt := 29) hx hb dX7_leavesOf_17 (by decide) (fun c_2713 => ?_) (fun c_2713 => ?_)
  · skip
    have hG := hG.trans (if_pos c_2713)
    have gc_2713 := ti_le c_2713 rfl rfl
    refine lv_aload_n hx hb dX7_leavesOf_29 rfl (lv_at hl 0 rfl) ?_
    refine va_get (D := (dC, dI)) (ci := 7) (v := .int iM_setMany) (C := RX7) (T := TX7) (N := 48) hx hb hts inX7 hown hK hP 0 rfl rfl 40 (by decide) (hts _ wd_1181) (fun _ h9 => h9) rfl dX7_leavesOf_30 ?_
    refine lv_aload_n hx hb dX7_leavesOf_33 rfl (lv_at hl 0 rfl) ?_
    refine va_get (D := (dC, dI)) (ci := 7) (v := .ref rM_often) (C := RX7) (T := TX7) (N := 48) hx hb hts inX7 hown hK hP 0 rfl rfl 39 (by decide) (hts _ wd_169) (fun _ h9 => h9) rfl dX7_leavesOf_34 ?_
    refine lv_iload_n hx hb dX7_leavesOf_37 rfl (lv_at hl 1 rfl) ?_
    refine va_iald hx hb hK hP 1 0 rfl rfl (ti_in rfl hp0.1 (om_27df6bf1 hp0.2)) dX7_leavesOf_38 ?_
    refine lv_topi (fun x_2714 ex_2714 => ?_)
    have hG := hG.trans (lt_eq ex_2714)
    have kx_2714 : (fM_often p0.toNatClampNeg).toInt = x_2714.toInt := by rw [ex_2714]
    have cx_2714 := kx_2714
    refine lv_isub hx hb dX7_leavesOf_39 ?_
    refine lv_topi (fun x_2715 ex_2715 => ?_)
    have hG := hG.trans (lt_eq ex_2715)
    exact wq_i hx hb hr 0 ⟨⟨trivial, trivial⟩, hG⟩ (fun t ht hW => Bw.to hP hD hK ht hW) hS dX7_leavesOf_40 hlocks
  · skip
    have hG := hG.trans (if_neg c_2713)
    have gc_2713 := ti_nle c_2713 rfl rfl
    refine lv_aload_n hx hb dX7_leavesOf_20 rfl (lv_at hl 0 rfl) ?_
    refine va_get (D := (dC, dI)) (ci := 7) (v := .ref rM_often) (C := RX7) (T := TX7) (N := 48) hx hb hts inX7 hown hK hP 0 rfl rfl 39 (by decide) (hts _ wd_169) (fun _ h9 => h9) rfl dX7_leavesOf_21 ?_
    refine lv_iload_n hx hb dX7_leavesOf_24 rfl (lv_at hl 1 rfl) ?_
    refine va_iald hx hb hK hP 1 0 rfl rfl (ti_in rfl hp0.1 (om_27df6bf1 hp0.2)) dX7_leavesOf_25 ?_
    refine lv_topi (fun x_2716 ex_2716 => ?_)
    have hG := hG.trans (lt_eq ex_2716)
    have kx_2716 : (fM_often p0.toNatClampNeg).toInt = x_2716.toInt := by rw [ex_2716]
    have cx_2716 := kx_2716
    refine lv_goto (tgt := 40) hx hb dX7_leavesOf_26 (by decide) ?_
    exact wq_i hx hb hr 0 ⟨⟨trivial, trivial⟩, hG⟩ (fun t ht hW => Bw.to hP hD hK ht hW) hS dX7_leavesOf_40 hlocks
set_option maxHeartbeats 4000000 in
set_option maxRecDepth 100000 in
theorem tX7_askedFirst (l : Launch) (dC : Nat → ClassId) (dI : Nat → Nat → Nat) (sz : Nat) (oM : Nat) (iM_thrown : Int32) (rM_tape : Nat) (iM_taped : Int32) (iM_size : Int32) (iM_at : Int32) (iM_end : Int32) (iM_token : Int32) (iM_whole : Int32) (iM_nameSize : Int32) (iM_fault : Int32) (iM_place : Int32) (iM_trouble : Int32) (rM_letters : Nat) (iM_failed : Int32) (iM_hasCourt : Int32) (rM_r : Nat) (fM_r : Nat → Int32) (kM_r : ClassId) (rM_fresh : Nat) (rM_told : Nat) (fM_told : Nat → Int32) (kM_told : ClassId) (rM_read : Nat) (rM_st : Nat) (rM_undone : Nat) (rM_kept : Nat) (iM_undos : Int32) (iM_images : Int32) (rM_fresher : Nat) (iM_fresherSize : Int32) (iM_scale : Int32) (iM_night : Int32) (rM_heardRow : Nat) (rM_cutRow : Nat) (iM_breaths : Int32) (iM_cutMany : Int32) (iM_allBreaths : Int32) (rM_trial : Nat) (fM_trial : Nat → Int32) (kM_trial : ClassId) (rM_words : Nat) (iM_fewestBreaths : Int32) (iM_orderMany : Int32) (iM_orderSum : Int32) (iM_leastOrder : Int32) (rM_often : Nat) (fM_often : Nat → Int32) (kM_often : ClassId) (iM_setMany : Int32) (iM_someOf : Int32) (iM_allOf : Int32) (iM_allWeight : Int64) (iM_enoughWeight : Int64) (iM_worthSum : Int64) (iM_firstRest : Int32) (iM_leastDrawn : Int32) (b_iM_taped : 0 ≤ iM_taped.toInt ∧ iM_taped.toInt ≤ 900) (b_iM_size : 0 ≤ iM_size.toInt ∧ iM_size.toInt ≤ 900) (b_iM_end : 0 ≤ iM_end.toInt ∧ iM_end.toInt ≤ 900) (b_iM_failed : 0 ≤ iM_failed.toInt ∧ iM_failed.toInt ≤ 1) (b_iM_hasCourt : 0 ≤ iM_hasCourt.toInt ∧ iM_hasCourt.toInt ≤ 1) (b_iM_undos : 0 ≤ iM_undos.toInt ∧ iM_undos.toInt ≤ 16) (b_iM_images : 0 ≤ iM_images.toInt ∧ iM_images.toInt ≤ 3) (b_iM_scale : 1 ≤ iM_scale.toInt ∧ iM_scale.toInt ≤ 1296) (b_iM_breaths : 0 ≤ iM_breaths.toInt ∧ iM_breaths.toInt ≤ 399) (b_iM_cutMany : 0 ≤ iM_cutMany.toInt ∧ iM_cutMany.toInt ≤ 399) (r_R : ROk fM_r) (r_C : iM_hasCourt.toInt ≤ 0 ∨ (1 ≤ (fM_r 1).toInt ∧ 0 ≤ (fM_r 6).toInt ∧ (fM_r 6).toInt < (fM_r 1).toInt)) (r_told : RowOk fM_r fM_told) (hth : 0 ≤ (fM_r 6).toInt ∧ (fM_r 6).toInt < (fM_r 1).toInt) : Met l yX7_askedFirst (Cond.code yX7_askedFirst cX7_askedFirst 3 (some .int) :: wG) ({ frames := 24, cells := 0, slots := 0, locals := 630 }) (va_Pc [.ref oM] (Pw dC dI sz [(oc7 oM iM_thrown rM_tape iM_taped iM_size iM_at iM_end iM_token iM_whole iM_nameSize iM_fault iM_place iM_trouble rM_letters iM_failed iM_hasCourt rM_r rM_fresh rM_told rM_read rM_st rM_undone rM_kept iM_undos iM_images rM_fresher iM_fresherSize iM_scale iM_night rM_heardRow rM_cutRow iM_breaths iM_cutMany iM_allBreaths rM_trial rM_words iM_fewestBreaths iM_orderMany iM_orderSum iM_leastOrder rM_often iM_setMany iM_someOf iM_allOf iM_allWeight iM_enoughWeight iM_worthSum iM_firstRest iM_leastDrawn), (arI rM_r kM_r 287 fM_r), (arI rM_told kM_told 90 fM_told), (arI rM_trial kM_trial 90 fM_trial), (arI rM_often kM_often 4 fM_often)] [(kM_r, .int), (kM_told, .int), (kM_trial, .int), (kM_often, .int)])) (va_Qi (fun (r : Int32) (u : Nat) => (True ∧ ((-2) ≤ r.toInt ∧ r.toInt ≤ 3)) ∧ r = Int32.ofNat u) (fun (u : Nat) (t : State) => ∃ (niM_setMany : Int32) (niM_someOf : Int32) (niM_allOf : Int32) (nfM_trial : Nat → Int32) (nfM_often : Nat → Int32), (PX7_askedFirst fM_r fM_told iM_scale iM_night fM_trial fM_often = (Int32.ofNat u, niM_setMany, niM_someOf, niM_allOf, nfM_trial, nfM_often)) ∧ Bw dC dI (va_A [(oc7 oM iM_thrown rM_tape iM_taped iM_size iM_at iM_end iM_token iM_whole iM_nameSize iM_fault iM_place iM_trouble rM_letters iM_failed iM_hasCourt rM_r rM_fresh rM_told rM_read rM_st rM_undone rM_kept iM_undos iM_images rM_fresher iM_fresherSize iM_scale iM_night rM_heardRow rM_cutRow iM_breaths iM_cutMany iM_allBreaths rM_trial rM_words iM_fewestBreaths iM_orderMany iM_orderSum iM_leastOrder rM_often iM_setMany iM_someOf iM_allOf iM_allWeight iM_enoughWeight iM_worthSum iM_firstRest iM_leastDrawn), (arI rM_r kM_r 287 fM_r), (arI rM_told kM_told 90 fM_told), (arI rM_trial kM_trial 90 fM_trial), (arI rM_often kM_often 4 fM_often)] sz) [(oc7 oM iM_thrown rM_tape iM_taped iM_size iM_at iM_end iM_token iM_whole iM_nameSize iM_fault iM_place iM_trouble rM_letters iM_failed iM_hasCourt rM_r rM_fresh rM_told rM_read rM_st rM_undone rM_kept iM_undos iM_images rM_fresher iM_fresherSize iM_scale iM_night rM_heardRow rM_cutRow iM_breaths iM_cutMany iM_allBreaths rM_trial rM_words iM_fewestBreaths iM_orderMany iM_orderSum iM_leastOrder rM_often niM_setMany niM_someOf niM_allOf iM_allWeight iM_enoughWeight iM_worthSum iM_firstRest iM_leastDrawn), (arI rM_r kM_r 287 fM_r), (arI rM_told kM_told 90 fM_told), (arI rM_trial kM_trial 90 nfM_trial), (arI rM_often kM_often 4 nfM_often)] [(kM_r, .int), (kM_told, .int), (kM_trial, .int), (kM_often, .int)] t) (va_A [(oc7 oM iM_thrown rM_tape iM_taped iM_size iM_at iM_end iM_token iM_whole iM_nameSize iM_fault iM_place iM_trouble rM_letters iM_failed iM_hasCourt rM_r rM_fresh rM_told rM_read rM_st rM_undone rM_kept iM_undos iM_images rM_fresher iM_fresherSize iM_scale iM_night rM_heardRow rM_cutRow iM_breaths iM_cutMany iM_allBreaths rM_trial rM_words iM_fewestBreaths iM_orderMany iM_orderSum iM_leastOrder rM_often iM_setMany iM_someOf iM_allOf iM_allWeight iM_enoughWeight iM_worthSum iM_firstRest iM_leastDrawn), (arI rM_r kM_r 287 fM_r), (arI rM_told kM_told 90 fM_told), (arI rM_trial kM_trial 90 fM_trial), (arI rM_often kM_often 4 fM_often)] sz)) 0 0 (va_A [(oc7 oM iM_thrown rM_tape iM_taped iM_size iM_at iM_end iM_token iM_whole iM_nameSize iM_fault iM_place iM_trouble rM_letters iM_failed iM_hasCourt rM_r rM_fresh rM_told rM_read rM_st rM_undone rM_kept iM_undos iM_images rM_fresher iM_fresherSize iM_scale iM_night rM_heardRow rM_cutRow iM_breaths iM_cutMany iM_allBreaths rM_trial rM_words iM_fewestBreaths iM_orderMany iM_orderSum iM_leastOrder rM_often iM_setMany iM_someOf iM_allOf iM_allWeight iM_enoughWeight iM_worthSum iM_firstRest iM_leastDrawn), (arI rM_r kM_r 287 fM_r), (arI rM_told kM_told 90 fM_told), (arI rM_trial kM_trial 90 fM_trial), (arI rM_often kM_often 4 fM_often)] sz) := by
  refine Met.ofW (cc := cX7_askedFirst) (maxL := 3) (ret := (some .int)) pnX7 rfl ?_
  intro p e s m args below meth c s₁ B hml hv
  obtain ⟨rfl, hsz, hP, hK, hD0, hE⟩ := hv
  have hx := B.exec
  have hb := B.bytes
  have hr := B.returns
  have hts : ∀ w ∈ wG, w.before ([.ref oM] : List Value).toArray s = true := fun w h => atoms_spec (ws := Cond.code yX7_askedFirst cX7_askedFirst 3 (some .int) :: wG) B.pre w (List.mem_cons_of_mem _ h)
  have hown : s.vm.findClass RX7 = some m.cls := own_of B.named rfl
  have hlocks := B.notSynchronized
  subst hsz
  have hD := hD0.self (sz := s.heap.size)
  generalize hAe : va_A [(oc7 oM iM_thrown rM_tape iM_taped iM_size iM_at iM_end iM_token iM_whole iM_nameSize iM_fault iM_place iM_trouble rM_letters iM_failed iM_hasCourt rM_r rM_fresh rM_told rM_read rM_st rM_undone rM_kept iM_undos iM_images rM_fresher iM_fresherSize iM_scale iM_night rM_heardRow rM_cutRow iM_breaths iM_cutMany iM_allBreaths rM_trial rM_words iM_fewestBreaths iM_orderMany iM_orderSum iM_leastOrder rM_often iM_setMany iM_someOf iM_allOf iM_allWeight iM_enoughWeight iM_worthSum iM_firstRest iM_leastDrawn), (arI rM_r kM_r 287 fM_r), (arI rM_told kM_told 90 fM_told), (arI rM_trial kM_trial 90 fM_trial), (arI rM_often kM_often 4 fM_often)] s.heap.size = A at hD hE ⊢
  have hA : ∀ q : Nat, s.heap.size ≤ q → A q := fun q h => by rw [← hAe]; exact Or.inr h
  have hS : va_S A s.heap s.heap [] := va_S.rf
  have hl := lv_entry ([.ref oM]) (n := 3) (Nat.le_of_ble_eq_true rfl)
  rw [lg_entry_eq]
  generalize (lg_sl ([.ref oM]) ++ List.replicate (3 - (lg_sl ([.ref oM])).length) Slot.unset).toArray = ls at hl ⊢
  have hl : lv_has ls 3 [(0, .ref oM)] := hl
  have hG := PX7_askedFirst_eq fM_r fM_told iM_scale iM_night fM_trial fM_often
  have s_slips := r_R.slips
  have s_nodes := r_R.nodes
  have s_uns := r_R.uns
  refine lv_aload_n hx hb dX7_askedFirst_0 rfl (lv_at hl 0 rfl) ?_
  refine lv_iconst (v := (-1)) hx hb dX7_askedFirst_1 (by decide) ?_
  have hFc := va_freeI hD hS hA
  refine va_calli (va_runV (As := [.int (-1)]) (rest := []) ⟨hx, hb, hml, hown, hts⟩ (tX7_seekSets l dC dI _ oM iM_thrown rM_tape iM_taped iM_size iM_at iM_end iM_token iM_whole iM_nameSize iM_fault iM_place iM_trouble rM_letters iM_failed iM_hasCourt rM_r fM_r kM_r rM_fresh rM_told fM_told kM_told rM_read rM_st rM_undone rM_kept iM_undos iM_images rM_fresher iM_fresherSize iM_scale iM_night rM_heardRow rM_cutRow iM_breaths iM_cutMany iM_allBreaths rM_trial fM_trial kM_trial rM_words iM_fewestBreaths iM_orderMany iM_orderSum iM_leastOrder rM_often fM_often kM_often iM_setMany iM_someOf iM_allOf iM_allWeight iM_enoughWeight iM_worthSum iM_firstRest iM_leastDrawn (-1) b_iM_taped b_iM_size b_iM_end b_iM_failed b_iM_hasCourt b_iM_undos b_iM_images b_iM_scale b_iM_breaths b_iM_cutMany (by assumption) (by assumption) (by assumption) ⟨hth.1, hth.2⟩) (cwV 1 hts (wd_V wd_1182 wd_1183 wd_1184 wd_5 (wd_c wd_1185)) rfl rfl rfl dv_yX7_seekSets_1 ⟨Nat.le_of_ble_eq_true rfl, Nat.le_of_ble_eq_true rfl⟩) ⟨Pw.fb, recvX7 hK hP (q0 := 0) rfl, fun U hU hW => Pw.to hP hD hK hE hS hFc hU hW⟩ rfl rfl hl.1 rfl (lv_room (Nat.le_of_ble_eq_true rfl)) dX7_askedFirst_2 ⟨Nat.le_of_ble_eq_true rfl, Nat.le_of_ble_eq_true rfl⟩) hS (fun q _ h => hFc q h) hFc (fun r u t H locs ht hvm hw hB hz1 hk1 hS => ?_)
  have hru9 := hw.2
  have hw := hw.1
  refine ex_5_1 hB (fun x_2736 x_2737 x_2738 f_2739 f_2740 e_x_2736_0 hB => ?_)
  obtain ⟨hP, hD⟩ := Bw.goA (ws' := [(oc7 oM iM_thrown rM_tape iM_taped iM_size iM_at iM_end iM_token iM_whole iM_nameSize iM_fault iM_place iM_trouble rM_letters iM_failed iM_hasCourt rM_r rM_fresh rM_told rM_read rM_st rM_undone rM_kept iM_undos iM_images rM_fresher iM_fresherSize iM_scale iM_night rM_heardRow rM_cutRow iM_breaths iM_cutMany iM_allBreaths rM_trial rM_words iM_fewestBreaths iM_orderMany iM_orderSum iM_leastOrder rM_often x_2736 x_2737 x_2738 iM_allWeight iM_enoughWeight iM_worthSum iM_firstRest iM_leastDrawn), (arI rM_r kM_r 287 fM_r), (arI rM_told kM_told 90 fM_told), (arI rM_trial kM_trial 90 f_2739), (arI rM_often kM_often 4 f_2740)]) hB rfl ht hFc rfl
  clear hz1 hk1 hvm ht hB
  have rg_x_2736 := fb_rng x_2736
  have rg_x_2737 := fb_rng x_2737
  have rg_x_2738 := fb_rng x_2738
  rw [← hru9] at e_x_2736_0
  obtain ⟨x_2741, rfl⟩ : ∃ z, z = r := ⟨_, rfl⟩
  have hG := hG.trans (un6_eq e_x_2736_0)
  have rg_x_2741 := fb_rng x_2741
  refine lv_pop hx hb dX7_askedFirst_5 rfl ?_
  refine lv_bipush (v := (-2)) hx hb dX7_askedFirst_6 (by decide) ?_
  refine lv_istore_n (lv' := [(1, .int (-2)), (0, .ref oM)]) hx hb dX7_askedFirst_8 rfl hl (by decide) rfl (fun ls hl => ?_)
  refine lv_iconst (v := 0) hx hb dX7_askedFirst_9 (by decide) ?_
  refine lv_istore_n (lv' := [(2, .int 0), (1, .int (-2)), (0, .ref oM)]) hx hb dX7_askedFirst_10 rfl hl (by decide) rfl (fun ls hl => ?_)
  have hl := lv_sub hl (l' := [(2, .int 0), (1, .int (-2)), (0, .ref oM)]) [0, 1, 2] rfl
  have key_n_2744 : ∀ (n_2744 : Nat) (z_2742 : Int32) (z_2743 : Int32) (H : Heap) (locs : List Loc) (ls : Array Slot), (0 ≤ z_2742.toInt ∧ z_2742.toInt ≤ 2147483647) → ((-2) ≤ z_2743.toInt ∧ z_2743.toInt ≤ 3) → (2147483647 - z_2742.toInt).toNat < n_2744 → (PX7_askedFirst fM_r fM_told iM_scale iM_night fM_trial fM_often = HX7_askedFirst_0 fM_r x_2736 x_2737 x_2738 f_2739 f_2740 n_2744 z_2742 z_2743) → va_P (dC, dI) vwCl [(oc7 oM iM_thrown rM_tape iM_taped iM_size iM_at iM_end iM_token iM_whole iM_nameSize iM_fault iM_place iM_trouble rM_letters iM_failed iM_hasCourt rM_r rM_fresh rM_told rM_read rM_st rM_undone rM_kept iM_undos iM_images rM_fresher iM_fresherSize iM_scale iM_night rM_heardRow rM_cutRow iM_breaths iM_cutMany iM_allBreaths rM_trial rM_words iM_fewestBreaths iM_orderMany iM_orderSum iM_leastOrder rM_often x_2736 x_2737 x_2738 iM_allWeight iM_enoughWeight iM_worthSum iM_firstRest iM_leastDrawn), (arI rM_r kM_r 287 fM_r), (arI rM_told kM_told 90 fM_told), (arI rM_trial kM_trial 90 f_2739), (arI rM_often kM_often 4 f_2740)] H → va_D A [(oc7 oM iM_thrown rM_tape iM_taped iM_size iM_at iM_end iM_token iM_whole iM_nameSize iM_fault iM_place iM_trouble rM_letters iM_failed iM_hasCourt rM_r rM_fresh rM_told rM_read rM_st rM_undone rM_kept iM_undos iM_images rM_fresher iM_fresherSize iM_scale iM_night rM_heardRow rM_cutRow iM_breaths iM_cutMany iM_allBreaths rM_trial rM_words iM_fewestBreaths iM_orderMany iM_orderSum iM_leastOrder rM_often x_2736 x_2737 x_2738 iM_allWeight iM_enoughWeight iM_worthSum iM_firstRest iM_leastDrawn), (arI rM_r kM_r 287 fM_r), (arI rM_told kM_told 90 fM_told), (arI rM_trial kM_trial 90 f_2739), (arI rM_often kM_often 4 f_2740)] → va_S A s.heap H locs → lv_has ls 3 [(2, .int z_2742), (1, .int z_2743), (0, .ref oM)] → W p l e (headSpec (Cond.code yX7_askedFirst cX7_askedFirst 3 (some .int) :: wG) ({ frames := 24, cells := 0, slots := 0, locals := 630 })).room s m ([.ref oM] : List Value).toArray below meth c H locs 0 0 (MQ below (va_Qi (fun (r : Int32) (u : Nat) => (True ∧ ((-2) ≤ r.toInt ∧ r.toInt ≤ 3)) ∧ r = Int32.ofNat u) (fun (u : Nat) (t : State) => ∃ (niM_setMany : Int32) (niM_someOf : Int32) (niM_allOf : Int32) (nfM_trial : Nat → Int32) (nfM_often : Nat → Int32), (PX7_askedFirst fM_r fM_told iM_scale iM_night fM_trial fM_often = (Int32.ofNat u, niM_setMany, niM_someOf, niM_allOf, nfM_trial, nfM_often)) ∧ Bw dC dI A [(oc7 oM iM_thrown rM_tape iM_taped iM_size iM_at iM_end iM_token iM_whole iM_nameSize iM_fault iM_place iM_trouble rM_letters iM_failed iM_hasCourt rM_r rM_fresh rM_told rM_read rM_st rM_undone rM_kept iM_undos iM_images rM_fresher iM_fresherSize iM_scale iM_night rM_heardRow rM_cutRow iM_breaths iM_cutMany iM_allBreaths rM_trial rM_words iM_fewestBreaths iM_orderMany iM_orderSum iM_leastOrder rM_often niM_setMany niM_someOf niM_allOf iM_allWeight iM_enoughWeight iM_worthSum iM_firstRest iM_leastDrawn), (arI rM_r kM_r 287 fM_r), (arI rM_told kM_told 90 fM_told), (arI rM_trial kM_trial 90 nfM_trial), (arI rM_often kM_often 4 nfM_often)] [(kM_r, .int), (kM_told, .int), (kM_trial, .int), (kM_often, .int)] t) A) ([.ref oM] : List Value).toArray s 0 0 A) (F0 m 11 ls []) := by
    intro n_2744
    induction n_2744 with
    | zero => intro z_2742 z_2743 H locs ls hi0_n_2744 hi1_n_2744 hm; exact absurd hm (Nat.not_lt_zero _)
    | succ n_2744 ih_n_2744 =>
      intro z_2742 z_2743 H locs ls hi0_n_2744 hi1_n_2744 hm_n_2744 hG hP hD hS hl
      have hG := hG.trans (HX7_askedFirst_0_eq _ _ _ _ _ _ _ _ _)
      have rg_z_2742 := fb_rng z_2742
      have rg_z_2743 := fb_rng z_2743
      refine lv_iload_n hx hb dX7_askedFirst_11 rfl (lv_at hl 0 rfl) ?_
      refine lv_aload_n hx hb dX7_askedFirst_12 rfl (lv_at hl 2 rfl) ?_
      refine va_get (D := (dC, dI)) (ci := 7) (v := .ref rM_r) (C := RX7) (T := TX7) (N := 48) hx hb hts inX7 hown hK hP 0 rfl rfl 15 (by decide) (hts _ wd_155) (fun _ h9 => h9) rfl dX7_askedFirst_13 ?_
      refine lv_iconst (v := 3) hx hb dX7_askedFirst_16 (by decide) ?_
      refine va_iald hx hb hK hP 1 0 rfl rfl (by unfold vp_in; decide) dX7_askedFirst_17 ?_
      refine lv_topi (fun x_2745 ex_2745 => ?_)
      have hG := hG.trans (lt_eq ex_2745)
      have rg_x_2745 := fb_rng x_2745
      have cx_2745 : (fM_r 3).toInt = x_2745.toInt := congrArg Int32.toInt (show fM_r 3 = x_2745 from ex_2745.symm)
      have sx_2745 := r_R.uns
      refine lv_icmp_ge (tgt := 53) hx hb dX7_askedFirst_18 (by decide) (fun c_2746 => ?_) (fun c_2746 => ?_)
      · skip
        have hG := hG.trans (if_pos c_2746)
        have gc_2746 := ti_le c_2746 rfl rfl
        refine lv_iload_n hx hb dX7_askedFirst_53 rfl (lv_at hl 1 rfl) ?_
        exact wq_i hx hb hr (cI z_2743) ⟨⟨trivial, ⟨hi1_n_2744.1, hi1_n_2744.2⟩⟩, (cI_of z_2743)⟩ (fun t ht hW => ⟨x_2736, x_2737, x_2738, f_2739, f_2740, (cI_tup hG), Bw.to hP hD hK ht hW⟩) hS dX7_askedFirst_54 hlocks
      · skip
        have hG := hG.trans (if_neg c_2746)
        have gc_2746 := ti_nle c_2746 rfl rfl
        refine lv_aload_n hx hb dX7_askedFirst_21 rfl (lv_at hl 2 rfl) ?_
        refine va_get (D := (dC, dI)) (ci := 7) (v := .int x_2736) (C := RX7) (T := TX7) (N := 48) hx hb hts inX7 hown hK hP 0 rfl rfl 40 (by decide) (hts _ wd_1181) (fun _ h9 => h9) rfl dX7_askedFirst_22 ?_
        refine lv_if_le (tgt := 53) hx hb dX7_askedFirst_25 (by decide) (fun c_2747 => ?_) (fun c_2747 => ?_)
        · skip
          have hG := hG.trans (if_pos c_2747)
          have gc_2747 := ti_le c_2747 rfl kc_0
          refine lv_iload_n hx hb dX7_askedFirst_53 rfl (lv_at hl 1 rfl) ?_
          exact wq_i hx hb hr (cI z_2743) ⟨⟨trivial, ⟨hi1_n_2744.1, hi1_n_2744.2⟩⟩, (cI_of z_2743)⟩ (fun t ht hW => ⟨x_2736, x_2737, x_2738, f_2739, f_2740, (cI_tup hG), Bw.to hP hD hK ht hW⟩) hS dX7_askedFirst_54 hlocks
        · skip
          have hG := hG.trans (if_neg c_2747)
          have gc_2747 := ti_nle c_2747 rfl kc_0
          refine lv_iload_n hx hb dX7_askedFirst_28 rfl (lv_at hl 1 rfl) ?_
          refine lv_if_lt (tgt := 45) hx hb dX7_askedFirst_29 (by decide) (fun c_2748 => ?_) (fun c_2748 => ?_)
          · skip
            have hG := hG.trans (if_pos c_2748)
            have gc_2748 := ti_lt c_2748 rfl kc_0
            refine lv_iload_n hx hb dX7_askedFirst_45 rfl (lv_at hl 0 rfl) ?_
            refine lv_istore_n (lv' := [(1, .int z_2742), (2, .int z_2742), (0, .ref oM)]) hx hb dX7_askedFirst_46 rfl hl (by decide) rfl (fun ls hl => ?_)
            obtain ⟨x_2749, ex_2749⟩ : ∃ z : Int32, z = z_2742 + Int32.ofInt 1 := ⟨_, rfl⟩
            have hG := hG.trans (lt_eq ex_2749)
            have vx_2749 : x_2749.toInt = z_2742.toInt + 1 := ti_add (y := 1) ex_2749 rfl kc_1 (om_4e4fce7e hi0_n_2744.1) (om_813b24f4 s_uns.2 cx_2745 gc_2746)
            refine lv_iinc (v := x_2749) (lv' := [(2, .int x_2749), (1, .int z_2742), (0, .ref oM)]) hx hb dX7_askedFirst_47 hl (k := 1) rfl ex_2749.symm (by decide) rfl (fun ls hl => ?_)
            refine lv_goto (tgt := 11) hx hb dX7_askedFirst_50 (by decide) ?_
            exact ih_n_2744 x_2749 z_2742 _ _ _  ⟨(om_83b90de5 hi0_n_2744.1 vx_2749), (om_2aa83bf6 s_uns.2 cx_2745 gc_2746 vx_2749)⟩ ⟨(om_eb349e14 hi0_n_2744.1), (om_081ed7e0 s_uns.2 cx_2745 gc_2746)⟩ (ms_lt hm_n_2744 (om_b9393183 vx_2749) (om_c1023465 s_uns.2 cx_2745 gc_2746)) hG hP hD hS (lv_sub hl [0, 1, 2] rfl)
          · skip
            have hG := hG.trans (if_neg c_2748)
            have gc_2748 := ti_nlt c_2748 rfl kc_0
            refine lv_aload_n hx hb dX7_askedFirst_32 rfl (lv_at hl 2 rfl) ?_
            refine lv_iload_n hx hb dX7_askedFirst_33 rfl (lv_at hl 0 rfl) ?_
            have hMs := ml_of hD [true, false, false, false, true] (wc := [(oc7 oM iM_thrown rM_tape iM_taped iM_size iM_at iM_end iM_token iM_whole iM_nameSize iM_fault iM_place iM_trouble rM_letters iM_failed iM_hasCourt rM_r rM_fresh rM_told rM_read rM_st rM_undone rM_kept iM_undos iM_images rM_fresher iM_fresherSize iM_scale iM_night rM_heardRow rM_cutRow iM_breaths iM_cutMany iM_allBreaths rM_trial rM_words iM_fewestBreaths iM_orderMany iM_orderSum iM_leastOrder rM_often x_2736 x_2737 x_2738 iM_allWeight iM_enoughWeight iM_worthSum iM_firstRest iM_leastDrawn), (arI rM_often kM_often 4 f_2740)]) rfl
            have hFc := va_freeM hD hS hA _ hMs
            refine va_calli (va_runV (As := [.int z_2742]) (rest := []) ⟨hx, hb, hml, hown, hts⟩ (tX7_leavesOf l dC dI _ oM iM_thrown rM_tape iM_taped iM_size iM_at iM_end iM_token iM_whole iM_nameSize iM_fault iM_place iM_trouble rM_letters iM_failed iM_hasCourt rM_r rM_fresh rM_told rM_read rM_st rM_undone rM_kept iM_undos iM_images rM_fresher iM_fresherSize iM_scale iM_night rM_heardRow rM_cutRow iM_breaths iM_cutMany iM_allBreaths rM_trial rM_words iM_fewestBreaths iM_orderMany iM_orderSum iM_leastOrder rM_often f_2740 kM_often x_2736 x_2737 x_2738 iM_allWeight iM_enoughWeight iM_worthSum iM_firstRest iM_leastDrawn z_2742 b_iM_taped b_iM_size b_iM_end b_iM_failed b_iM_hasCourt b_iM_undos b_iM_images b_iM_scale b_iM_breaths b_iM_cutMany ⟨hi0_n_2744.1, (om_081ed7e0 s_uns.2 cx_2745 gc_2746)⟩) (cwV 1 hts (wd_V wd_1242 wd_1243 wd_1244 wd_5 (wd_c wd_1245)) rfl rfl rfl dv_yX7_leavesOf_1 ⟨Nat.le_of_ble_eq_true rfl, Nat.le_of_ble_eq_true rfl⟩) ⟨Pw.fb, recvX7 hK hP (q0 := 0) rfl, fun U hU hW => Pw.to (hP.ms _ hMs) (hD.ms _ hMs) (hK.ms [false, false, false, true] rfl) hE hS hFc hU hW⟩ rfl rfl hl.1 rfl (lv_room (Nat.le_of_ble_eq_true rfl)) dX7_askedFirst_34 ⟨Nat.le_of_ble_eq_true rfl, Nat.le_of_ble_eq_true rfl⟩) hS (fun q _ h => hFc q h) hFc (fun r u t H locs ht hvm hw hB hz1 hk1 hS => ?_)
            have hru9 := hw.2
            have hw := hw.1
            obtain ⟨hP, hD⟩ := Bw.goN (ws' := [(oc7 oM iM_thrown rM_tape iM_taped iM_size iM_at iM_end iM_token iM_whole iM_nameSize iM_fault iM_place iM_trouble rM_letters iM_failed iM_hasCourt rM_r rM_fresh rM_told rM_read rM_st rM_undone rM_kept iM_undos iM_images rM_fresher iM_fresherSize iM_scale iM_night rM_heardRow rM_cutRow iM_breaths iM_cutMany iM_allBreaths rM_trial rM_words iM_fewestBreaths iM_orderMany iM_orderSum iM_leastOrder rM_often x_2736 x_2737 x_2738 iM_allWeight iM_enoughWeight iM_worthSum iM_firstRest iM_leastDrawn), (arI rM_r kM_r 287 fM_r), (arI rM_told kM_told 90 fM_told), (arI rM_trial kM_trial 90 f_2739), (arI rM_often kM_often 4 f_2740)]) hB rfl ht hP hD _ hMs hk1 hFc rfl
            clear hz1 hk1 hvm ht hB hMs
            obtain ⟨x_2750, rfl⟩ : ∃ z, z = r := ⟨_, rfl⟩
            have hG := hG.trans (lt_eq hru9.symm)
            have rg_x_2750 := fb_rng x_2750
            refine lv_aload_n hx hb dX7_askedFirst_37 rfl (lv_at hl 2 rfl) ?_
            refine lv_iload_n hx hb dX7_askedFirst_38 rfl (lv_at hl 1 rfl) ?_
            have hMs := ml_of hD [true, false, false, false, true] (wc := [(oc7 oM iM_thrown rM_tape iM_taped iM_size iM_at iM_end iM_token iM_whole iM_nameSize iM_fault iM_place iM_trouble rM_letters iM_failed iM_hasCourt rM_r rM_fresh rM_told rM_read rM_st rM_undone rM_kept iM_undos iM_images rM_fresher iM_fresherSize iM_scale iM_night rM_heardRow rM_cutRow iM_breaths iM_cutMany iM_allBreaths rM_trial rM_words iM_fewestBreaths iM_orderMany iM_orderSum iM_leastOrder rM_often x_2736 x_2737 x_2738 iM_allWeight iM_enoughWeight iM_worthSum iM_firstRest iM_leastDrawn), (arI rM_often kM_often 4 f_2740)]) rfl
            have hFc := va_freeM hD hS hA _ hMs
            refine va_calli (va_runV (As := [.int z_2743]) (rest := [.int x_2750]) ⟨hx, hb, hml, hown, hts⟩ (tX7_leavesOf l dC dI _ oM iM_thrown rM_tape iM_taped iM_size iM_at iM_end iM_token iM_whole iM_nameSize iM_fault iM_place iM_trouble rM_letters iM_failed iM_hasCourt rM_r rM_fresh rM_told rM_read rM_st rM_undone rM_kept iM_undos iM_images rM_fresher iM_fresherSize iM_scale iM_night rM_heardRow rM_cutRow iM_breaths iM_cutMany iM_allBreaths rM_trial rM_words iM_fewestBreaths iM_orderMany iM_orderSum iM_leastOrder rM_often f_2740 kM_often x_2736 x_2737 x_2738 iM_allWeight iM_enoughWeight iM_worthSum iM_firstRest iM_leastDrawn z_2743 b_iM_taped b_iM_size b_iM_end b_iM_failed b_iM_hasCourt b_iM_undos b_iM_images b_iM_scale b_iM_breaths b_iM_cutMany ⟨gc_2748, hi1_n_2744.2⟩) (cwV 1 hts (wd_V wd_1242 wd_1243 wd_1244 wd_5 (wd_c wd_1245)) rfl rfl rfl dv_yX7_leavesOf_1 ⟨Nat.le_of_ble_eq_true rfl, Nat.le_of_ble_eq_true rfl⟩) ⟨Pw.fb, recvX7 hK hP (q0 := 0) rfl, fun U hU hW => Pw.to (hP.ms _ hMs) (hD.ms _ hMs) (hK.ms [false, false, false, true] rfl) hE hS hFc hU hW⟩ rfl rfl hl.1 rfl (lv_room (Nat.le_of_ble_eq_true rfl)) dX7_askedFirst_39 ⟨Nat.le_of_ble_eq_true rfl, Nat.le_of_ble_eq_true rfl⟩) hS (fun q _ h => hFc q h) hFc (fun r u t H locs ht hvm hw hB hz1 hk1 hS => ?_)
            have hru9 := hw.2
            have hw := hw.1
            obtain ⟨hP, hD⟩ := Bw.goN (ws' := [(oc7 oM iM_thrown rM_tape iM_taped iM_size iM_at iM_end iM_token iM_whole iM_nameSize iM_fault iM_place iM_trouble rM_letters iM_failed iM_hasCourt rM_r rM_fresh rM_told rM_read rM_st rM_undone rM_kept iM_undos iM_images rM_fresher iM_fresherSize iM_scale iM_night rM_heardRow rM_cutRow iM_breaths iM_cutMany iM_allBreaths rM_trial rM_words iM_fewestBreaths iM_orderMany iM_orderSum iM_leastOrder rM_often x_2736 x_2737 x_2738 iM_allWeight iM_enoughWeight iM_worthSum iM_firstRest iM_leastDrawn), (arI rM_r kM_r 287 fM_r), (arI rM_told kM_told 90 fM_told), (arI rM_trial kM_trial 90 f_2739), (arI rM_often kM_often 4 f_2740)]) hB rfl ht hP hD _ hMs hk1 hFc rfl
            clear hz1 hk1 hvm ht hB hMs
            obtain ⟨x_2751, rfl⟩ : ∃ z, z = r := ⟨_, rfl⟩
            have hG := hG.trans (lt_eq hru9.symm)
            have rg_x_2751 := fb_rng x_2751
            refine lv_icmp_ge (tgt := 47) hx hb dX7_askedFirst_42 (by decide) (fun c_2752 => ?_) (fun c_2752 => ?_)
            · skip
              have hG := hG.trans (if_pos c_2752)
              have gc_2752 := ti_le c_2752 rfl rfl
              obtain ⟨x_2753, ex_2753⟩ : ∃ z : Int32, z = z_2742 + Int32.ofInt 1 := ⟨_, rfl⟩
              have hG := hG.trans (lt_eq ex_2753)
              have vx_2753 : x_2753.toInt = z_2742.toInt + 1 := ti_add (y := 1) ex_2753 rfl kc_1 (om_4e4fce7e hi0_n_2744.1) (om_813b24f4 s_uns.2 cx_2745 gc_2746)
              refine lv_iinc (v := x_2753) (lv' := [(2, .int x_2753), (1, .int z_2743), (0, .ref oM)]) hx hb dX7_askedFirst_47 hl (k := 0) rfl ex_2753.symm (by decide) rfl (fun ls hl => ?_)
              refine lv_goto (tgt := 11) hx hb dX7_askedFirst_50 (by decide) ?_
              exact ih_n_2744 x_2753 z_2743 _ _ _  ⟨(om_83b90de5 hi0_n_2744.1 vx_2753), (om_2aa83bf6 s_uns.2 cx_2745 gc_2746 vx_2753)⟩ ⟨hi1_n_2744.1, hi1_n_2744.2⟩ (ms_lt hm_n_2744 (om_b9393183 vx_2753) (om_c1023465 s_uns.2 cx_2745 gc_2746)) hG hP hD hS (lv_sub hl [0, 1, 2] rfl)
            · skip
              have hG := hG.trans (if_neg c_2752)
              have gc_2752 := ti_nle c_2752 rfl rfl
              refine lv_iload_n hx hb dX7_askedFirst_45 rfl (lv_at hl 0 rfl) ?_
              refine lv_istore_n (lv' := [(1, .int z_2742), (2, .int z_2742), (0, .ref oM)]) hx hb dX7_askedFirst_46 rfl hl (by decide) rfl (fun ls hl => ?_)
              obtain ⟨x_2754, ex_2754⟩ : ∃ z : Int32, z = z_2742 + Int32.ofInt 1 := ⟨_, rfl⟩
              have hG := hG.trans (lt_eq ex_2754)
              have vx_2754 : x_2754.toInt = z_2742.toInt + 1 := ti_add (y := 1) ex_2754 rfl kc_1 (om_4e4fce7e hi0_n_2744.1) (om_813b24f4 s_uns.2 cx_2745 gc_2746)
              refine lv_iinc (v := x_2754) (lv' := [(2, .int x_2754), (1, .int z_2742), (0, .ref oM)]) hx hb dX7_askedFirst_47 hl (k := 1) rfl ex_2754.symm (by decide) rfl (fun ls hl => ?_)
              refine lv_goto (tgt := 11) hx hb dX7_askedFirst_50 (by decide) ?_
              exact ih_n_2744 x_2754 z_2742 _ _ _  ⟨(om_83b90de5 hi0_n_2744.1 vx_2754), (om_2aa83bf6 s_uns.2 cx_2745 gc_2746 vx_2754)⟩ ⟨(om_eb349e14 hi0_n_2744.1), (om_081ed7e0 s_uns.2 cx_2745 gc_2746)⟩ (ms_lt hm_n_2744 (om_b9393183 vx_2754) (om_c1023465 s_uns.2 cx_2745 gc_2746)) hG hP hD hS (lv_sub hl [0, 1, 2] rfl)
  exact key_n_2744 (((2147483647 - (0 : Int32).toInt).toNat) + 1) 0 (-2) _ _ _  ⟨(om_b1de7dbe kc_0), (om_daf17c64 kc_0)⟩ ⟨(om_7dd8a8cf kc_m2), (om_fefced54 kc_m2)⟩ (Nat.lt_add_one _) hG hP hD hS hl
set_option maxHeartbeats 4000000 in
set_option maxRecDepth 100000 in
theorem tX7_fits (l : Launch) (dC : Nat → ClassId) (dI : Nat → Nat → Nat) (sz : Nat) (oM : Nat) (iM_thrown : Int32) (rM_tape : Nat) (iM_taped : Int32) (iM_size : Int32) (iM_at : Int32) (iM_end : Int32) (iM_token : Int32) (iM_whole : Int32) (iM_nameSize : Int32) (iM_fault : Int32) (iM_place : Int32) (iM_trouble : Int32) (rM_letters : Nat) (iM_failed : Int32) (iM_hasCourt : Int32) (rM_r : Nat) (fM_r : Nat → Int32) (kM_r : ClassId) (rM_fresh : Nat) (rM_told : Nat) (fM_told : Nat → Int32) (kM_told : ClassId) (rM_read : Nat) (rM_st : Nat) (rM_undone : Nat) (rM_kept : Nat) (iM_undos : Int32) (iM_images : Int32) (rM_fresher : Nat) (iM_fresherSize : Int32) (iM_scale : Int32) (iM_night : Int32) (rM_heardRow : Nat) (rM_cutRow : Nat) (iM_breaths : Int32) (iM_cutMany : Int32) (iM_allBreaths : Int32) (rM_trial : Nat) (fM_trial : Nat → Int32) (kM_trial : ClassId) (rM_words : Nat) (iM_fewestBreaths : Int32) (iM_orderMany : Int32) (iM_orderSum : Int32) (iM_leastOrder : Int32) (rM_often : Nat) (fM_often : Nat → Int32) (kM_often : ClassId) (iM_setMany : Int32) (iM_someOf : Int32) (iM_allOf : Int32) (iM_allWeight : Int64) (iM_enoughWeight : Int64) (iM_worthSum : Int64) (iM_firstRest : Int32) (iM_leastDrawn : Int32) (b_iM_taped : 0 ≤ iM_taped.toInt ∧ iM_taped.toInt ≤ 900) (b_iM_size : 0 ≤ iM_size.toInt ∧ iM_size.toInt ≤ 900) (b_iM_end : 0 ≤ iM_end.toInt ∧ iM_end.toInt ≤ 900) (b_iM_failed : 0 ≤ iM_failed.toInt ∧ iM_failed.toInt ≤ 1) (b_iM_hasCourt : 0 ≤ iM_hasCourt.toInt ∧ iM_hasCourt.toInt ≤ 1) (b_iM_undos : 0 ≤ iM_undos.toInt ∧ iM_undos.toInt ≤ 16) (b_iM_images : 0 ≤ iM_images.toInt ∧ iM_images.toInt ≤ 3) (b_iM_scale : 1 ≤ iM_scale.toInt ∧ iM_scale.toInt ≤ 1296) (b_iM_breaths : 0 ≤ iM_breaths.toInt ∧ iM_breaths.toInt ≤ 399) (b_iM_cutMany : 0 ≤ iM_cutMany.toInt ∧ iM_cutMany.toInt ≤ 399) (r_R : ROk fM_r) (r_C : iM_hasCourt.toInt ≤ 0 ∨ (1 ≤ (fM_r 1).toInt ∧ 0 ≤ (fM_r 6).toInt ∧ (fM_r 6).toInt < (fM_r 1).toInt)) (r_told : RowOk fM_r fM_told)  : Met l yX7_fits (Cond.code yX7_fits cX7_fits 1 (some .int) :: wG) ({ frames := 24, cells := 0, slots := 0, locals := 630 }) (va_Pc [.ref oM] (Pw dC dI sz [(oc7 oM iM_thrown rM_tape iM_taped iM_size iM_at iM_end iM_token iM_whole iM_nameSize iM_fault iM_place iM_trouble rM_letters iM_failed iM_hasCourt rM_r rM_fresh rM_told rM_read rM_st rM_undone rM_kept iM_undos iM_images rM_fresher iM_fresherSize iM_scale iM_night rM_heardRow rM_cutRow iM_breaths iM_cutMany iM_allBreaths rM_trial rM_words iM_fewestBreaths iM_orderMany iM_orderSum iM_leastOrder rM_often iM_setMany iM_someOf iM_allOf iM_allWeight iM_enoughWeight iM_worthSum iM_firstRest iM_leastDrawn), (arI rM_r kM_r 287 fM_r), (arI rM_told kM_told 90 fM_told), (arI rM_trial kM_trial 90 fM_trial), (arI rM_often kM_often 4 fM_often)] [(kM_r, .int), (kM_told, .int), (kM_trial, .int), (kM_often, .int)])) (va_Qi (fun (r : Int32) (u : Nat) => (True ∧ True) ∧ r = Int32.ofNat u) (fun (u : Nat) (t : State) => ∃ (niM_thrown : Int32) (niM_trouble : Int32) (niM_setMany : Int32) (niM_someOf : Int32) (niM_allOf : Int32) (nfM_trial : Nat → Int32) (nfM_often : Nat → Int32), (PX7_fits iM_hasCourt fM_r fM_told iM_scale iM_night fM_trial fM_often iM_setMany iM_someOf iM_allOf = (Int32.ofNat u, niM_thrown, niM_trouble, niM_setMany, niM_someOf, niM_allOf, nfM_trial, nfM_often)) ∧ Bw dC dI (va_A [(oc7 oM iM_thrown rM_tape iM_taped iM_size iM_at iM_end iM_token iM_whole iM_nameSize iM_fault iM_place iM_trouble rM_letters iM_failed iM_hasCourt rM_r rM_fresh rM_told rM_read rM_st rM_undone rM_kept iM_undos iM_images rM_fresher iM_fresherSize iM_scale iM_night rM_heardRow rM_cutRow iM_breaths iM_cutMany iM_allBreaths rM_trial rM_words iM_fewestBreaths iM_orderMany iM_orderSum iM_leastOrder rM_often iM_setMany iM_someOf iM_allOf iM_allWeight iM_enoughWeight iM_worthSum iM_firstRest iM_leastDrawn), (arI rM_r kM_r 287 fM_r), (arI rM_told kM_told 90 fM_told), (arI rM_trial kM_trial 90 fM_trial), (arI rM_often kM_often 4 fM_often)] sz) [(oc7 oM niM_thrown rM_tape iM_taped iM_size iM_at iM_end iM_token iM_whole iM_nameSize iM_fault iM_place niM_trouble rM_letters iM_failed iM_hasCourt rM_r rM_fresh rM_told rM_read rM_st rM_undone rM_kept iM_undos iM_images rM_fresher iM_fresherSize iM_scale iM_night rM_heardRow rM_cutRow iM_breaths iM_cutMany iM_allBreaths rM_trial rM_words iM_fewestBreaths iM_orderMany iM_orderSum iM_leastOrder rM_often niM_setMany niM_someOf niM_allOf iM_allWeight iM_enoughWeight iM_worthSum iM_firstRest iM_leastDrawn), (arI rM_r kM_r 287 fM_r), (arI rM_told kM_told 90 fM_told), (arI rM_trial kM_trial 90 nfM_trial), (arI rM_often kM_often 4 nfM_often)] [(kM_r, .int), (kM_told, .int), (kM_trial, .int), (kM_often, .int)] t) (va_A [(oc7 oM iM_thrown rM_tape iM_taped iM_size iM_at iM_end iM_token iM_whole iM_nameSize iM_fault iM_place iM_trouble rM_letters iM_failed iM_hasCourt rM_r rM_fresh rM_told rM_read rM_st rM_undone rM_kept iM_undos iM_images rM_fresher iM_fresherSize iM_scale iM_night rM_heardRow rM_cutRow iM_breaths iM_cutMany iM_allBreaths rM_trial rM_words iM_fewestBreaths iM_orderMany iM_orderSum iM_leastOrder rM_often iM_setMany iM_someOf iM_allOf iM_allWeight iM_enoughWeight iM_worthSum iM_firstRest iM_leastDrawn), (arI rM_r kM_r 287 fM_r), (arI rM_told kM_told 90 fM_told), (arI rM_trial kM_trial 90 fM_trial), (arI rM_often kM_often 4 fM_often)] sz)) 0 0 (va_A [(oc7 oM iM_thrown rM_tape iM_taped iM_size iM_at iM_end iM_token iM_whole iM_nameSize iM_fault iM_place iM_trouble rM_letters iM_failed iM_hasCourt rM_r rM_fresh rM_told rM_read rM_st rM_undone rM_kept iM_undos iM_images rM_fresher iM_fresherSize iM_scale iM_night rM_heardRow rM_cutRow iM_breaths iM_cutMany iM_allBreaths rM_trial rM_words iM_fewestBreaths iM_orderMany iM_orderSum iM_leastOrder rM_often iM_setMany iM_someOf iM_allOf iM_allWeight iM_enoughWeight iM_worthSum iM_firstRest iM_leastDrawn), (arI rM_r kM_r 287 fM_r), (arI rM_told kM_told 90 fM_told), (arI rM_trial kM_trial 90 fM_trial), (arI rM_often kM_often 4 fM_often)] sz) := by
  refine Met.ofW (cc := cX7_fits) (maxL := 1) (ret := (some .int)) pnX7 rfl ?_
  intro p e s m args below meth c s₁ B hml hv
  obtain ⟨rfl, hsz, hP, hK, hD0, hE⟩ := hv
  have hx := B.exec
  have hb := B.bytes
  have hr := B.returns
  have hts : ∀ w ∈ wG, w.before ([.ref oM] : List Value).toArray s = true := fun w h => atoms_spec (ws := Cond.code yX7_fits cX7_fits 1 (some .int) :: wG) B.pre w (List.mem_cons_of_mem _ h)
  have hown : s.vm.findClass RX7 = some m.cls := own_of B.named rfl
  have hlocks := B.notSynchronized
  subst hsz
  have hD := hD0.self (sz := s.heap.size)
  generalize hAe : va_A [(oc7 oM iM_thrown rM_tape iM_taped iM_size iM_at iM_end iM_token iM_whole iM_nameSize iM_fault iM_place iM_trouble rM_letters iM_failed iM_hasCourt rM_r rM_fresh rM_told rM_read rM_st rM_undone rM_kept iM_undos iM_images rM_fresher iM_fresherSize iM_scale iM_night rM_heardRow rM_cutRow iM_breaths iM_cutMany iM_allBreaths rM_trial rM_words iM_fewestBreaths iM_orderMany iM_orderSum iM_leastOrder rM_often iM_setMany iM_someOf iM_allOf iM_allWeight iM_enoughWeight iM_worthSum iM_firstRest iM_leastDrawn), (arI rM_r kM_r 287 fM_r), (arI rM_told kM_told 90 fM_told), (arI rM_trial kM_trial 90 fM_trial), (arI rM_often kM_often 4 fM_often)] s.heap.size = A at hD hE ⊢
  have hA : ∀ q : Nat, s.heap.size ≤ q → A q := fun q h => by rw [← hAe]; exact Or.inr h
  have hS : va_S A s.heap s.heap [] := va_S.rf
  have hl := lv_entry ([.ref oM]) (n := 1) (Nat.le_of_ble_eq_true rfl)
  rw [lg_entry_eq]
  generalize (lg_sl ([.ref oM]) ++ List.replicate (1 - (lg_sl ([.ref oM])).length) Slot.unset).toArray = ls at hl ⊢
  have hl : lv_has ls 1 [(0, .ref oM)] := hl
  have hG := PX7_fits_eq iM_hasCourt fM_r fM_told iM_scale iM_night fM_trial fM_often iM_setMany iM_someOf iM_allOf
  have s_slips := r_R.slips
  have s_nodes := r_R.nodes
  have s_uns := r_R.uns
  refine lv_aload_n hx hb dX7_fits_0 rfl (lv_at hl 0 rfl) ?_
  have hMs := ml_of hD [true, false, false, false, false] (wc := [(oc7 oM iM_thrown rM_tape iM_taped iM_size iM_at iM_end iM_token iM_whole iM_nameSize iM_fault iM_place iM_trouble rM_letters iM_failed iM_hasCourt rM_r rM_fresh rM_told rM_read rM_st rM_undone rM_kept iM_undos iM_images rM_fresher iM_fresherSize iM_scale iM_night rM_heardRow rM_cutRow iM_breaths iM_cutMany iM_allBreaths rM_trial rM_words iM_fewestBreaths iM_orderMany iM_orderSum iM_leastOrder rM_often iM_setMany iM_someOf iM_allOf iM_allWeight iM_enoughWeight iM_worthSum iM_firstRest iM_leastDrawn)]) rfl
  have hFc := va_freeM hD hS hA _ hMs
  refine va_callv (va_runV (As := []) (rest := []) ⟨hx, hb, hml, hown, hts⟩ (tX7_good l dC dI _ oM iM_thrown rM_tape iM_taped iM_size iM_at iM_end iM_token iM_whole iM_nameSize iM_fault iM_place iM_trouble rM_letters iM_failed iM_hasCourt rM_r rM_fresh rM_told rM_read rM_st rM_undone rM_kept iM_undos iM_images rM_fresher iM_fresherSize iM_scale iM_night rM_heardRow rM_cutRow iM_breaths iM_cutMany iM_allBreaths rM_trial rM_words iM_fewestBreaths iM_orderMany iM_orderSum iM_leastOrder rM_often iM_setMany iM_someOf iM_allOf iM_allWeight iM_enoughWeight iM_worthSum iM_firstRest iM_leastDrawn b_iM_taped b_iM_size b_iM_end b_iM_failed b_iM_hasCourt b_iM_undos b_iM_images b_iM_scale b_iM_breaths b_iM_cutMany) (cwV 0 hts (wd_V wd_388 wd_389 wd_390 wd_5 (wd_c wd_391)) rfl rfl rfl dv_yX7_good_0 ⟨Nat.le_of_ble_eq_true rfl, Nat.le_of_ble_eq_true rfl⟩) ⟨Pw.fb, recvX7 hK hP (q0 := 0) rfl, fun U hU hW => Pw.to (hP.ms _ hMs) (hD.ms _ hMs) (hK.ms [false, false, false, false] rfl) hE hS hFc hU hW⟩ rfl rfl hl.1 rfl (lv_room (Nat.le_of_ble_eq_true rfl)) dX7_fits_1 ⟨Nat.le_of_ble_eq_true rfl, Nat.le_of_ble_eq_true rfl⟩) hS (fun q _ h => hFc q h) hFc (fun u t H locs ht hvm hw hB hz1 hk1 hS => ?_)
  refine ex_2_3 hB (fun x_2769 x_2770 b_x_2769 b_x_2770 e_x_2769_0 hB => ?_)
  obtain ⟨hP, hD⟩ := Bw.goN (ws' := [(oc7 oM x_2769 rM_tape iM_taped iM_size iM_at iM_end iM_token iM_whole iM_nameSize iM_fault iM_place x_2770 rM_letters iM_failed iM_hasCourt rM_r rM_fresh rM_told rM_read rM_st rM_undone rM_kept iM_undos iM_images rM_fresher iM_fresherSize iM_scale iM_night rM_heardRow rM_cutRow iM_breaths iM_cutMany iM_allBreaths rM_trial rM_words iM_fewestBreaths iM_orderMany iM_orderSum iM_leastOrder rM_often iM_setMany iM_someOf iM_allOf iM_allWeight iM_enoughWeight iM_worthSum iM_firstRest iM_leastDrawn), (arI rM_r kM_r 287 fM_r), (arI rM_told kM_told 90 fM_told), (arI rM_trial kM_trial 90 fM_trial), (arI rM_often kM_often 4 fM_often)]) hB rfl ht hP hD _ hMs hk1 hFc rfl
  clear hz1 hk1 hvm ht hB hMs
  have hG := hG.trans (un2_eq e_x_2769_0)
  refine lv_aload_n hx hb dX7_fits_4 rfl (lv_at hl 0 rfl) ?_
  rcases (id r_C) with r_C0 | r_C1
  · skip
    refine va_get (D := (dC, dI)) (ci := 7) (v := .int iM_hasCourt) (C := RX7) (T := TX7) (N := 48) hx hb hts inX7 hown hK hP 0 rfl rfl 14 (by decide) (hts _ wd_385) (fun _ h9 => h9) rfl dX7_fits_5 ?_
    refine lv_if_ne (tgt := 17) hx hb dX7_fits_8 (by decide) (fun c_2771 => ?_) (fun c_2771 => ?_)
    · skip
      have hG := hG.trans (if_neg c_2771)
      have gc_2771 := ti_ne c_2771 rfl kc_0
      exact (om_c9ba8b89 gc_2771 r_C0 b_iM_hasCourt.1).elim
    · skip
      have hG := hG.trans (if_pos c_2771)
      have gc_2771 := ti_eq c_2771 rfl kc_0
      refine lv_aload_n hx hb dX7_fits_11 rfl (lv_at hl 0 rfl) ?_
      refine lv_iconst (v := 1) hx hb dX7_fits_12 (by decide) ?_
      have hMs := ml_of hD [true, false, false, false, false] (wc := [(oc7 oM x_2769 rM_tape iM_taped iM_size iM_at iM_end iM_token iM_whole iM_nameSize iM_fault iM_place x_2770 rM_letters iM_failed iM_hasCourt rM_r rM_fresh rM_told rM_read rM_st rM_undone rM_kept iM_undos iM_images rM_fresher iM_fresherSize iM_scale iM_night rM_heardRow rM_cutRow iM_breaths iM_cutMany iM_allBreaths rM_trial rM_words iM_fewestBreaths iM_orderMany iM_orderSum iM_leastOrder rM_often iM_setMany iM_someOf iM_allOf iM_allWeight iM_enoughWeight iM_worthSum iM_firstRest iM_leastDrawn)]) rfl
      have hFc := va_freeM hD hS hA _ hMs
      refine va_calli (va_runV (As := [.int 1]) (rest := []) ⟨hx, hb, hml, hown, hts⟩ (tX7_no l dC dI _ oM x_2769 rM_tape iM_taped iM_size iM_at iM_end iM_token iM_whole iM_nameSize iM_fault iM_place x_2770 rM_letters iM_failed iM_hasCourt rM_r rM_fresh rM_told rM_read rM_st rM_undone rM_kept iM_undos iM_images rM_fresher iM_fresherSize iM_scale iM_night rM_heardRow rM_cutRow iM_breaths iM_cutMany iM_allBreaths rM_trial rM_words iM_fewestBreaths iM_orderMany iM_orderSum iM_leastOrder rM_often iM_setMany iM_someOf iM_allOf iM_allWeight iM_enoughWeight iM_worthSum iM_firstRest iM_leastDrawn 1 b_iM_taped b_iM_size b_iM_end b_iM_failed b_iM_hasCourt b_iM_undos b_iM_images b_iM_scale b_iM_breaths b_iM_cutMany) (cwV 1 hts (wd_V wd_396 wd_397 wd_398 wd_5 (wd_c wd_399)) rfl rfl rfl dv_yX7_no_1 ⟨Nat.le_of_ble_eq_true rfl, Nat.le_of_ble_eq_true rfl⟩) ⟨Pw.fb, recvX7 hK hP (q0 := 0) rfl, fun U hU hW => Pw.to (hP.ms _ hMs) (hD.ms _ hMs) (hK.ms [false, false, false, false] rfl) hE hS hFc hU hW⟩ rfl rfl hl.1 rfl (lv_room (Nat.le_of_ble_eq_true rfl)) dX7_fits_13 ⟨Nat.le_of_ble_eq_true rfl, Nat.le_of_ble_eq_true rfl⟩) hS (fun q _ h => hFc q h) hFc (fun r u t H locs ht hvm hw hB hz1 hk1 hS => ?_)
      have hru9 := hw.2
      have hw := hw.1
      refine ex_1_1 hB (fun x_2772 e_x_2772_0 hB => ?_)
      obtain ⟨hP, hD⟩ := Bw.goN (ws' := [(oc7 oM x_2769 rM_tape iM_taped iM_size iM_at iM_end iM_token iM_whole iM_nameSize iM_fault iM_place x_2772 rM_letters iM_failed iM_hasCourt rM_r rM_fresh rM_told rM_read rM_st rM_undone rM_kept iM_undos iM_images rM_fresher iM_fresherSize iM_scale iM_night rM_heardRow rM_cutRow iM_breaths iM_cutMany iM_allBreaths rM_trial rM_words iM_fewestBreaths iM_orderMany iM_orderSum iM_leastOrder rM_often iM_setMany iM_someOf iM_allOf iM_allWeight iM_enoughWeight iM_worthSum iM_firstRest iM_leastDrawn), (arI rM_r kM_r 287 fM_r), (arI rM_told kM_told 90 fM_told), (arI rM_trial kM_trial 90 fM_trial), (arI rM_often kM_often 4 fM_often)]) hB rfl ht hP hD _ hMs hk1 hFc rfl
      clear hz1 hk1 hvm ht hB hMs
      rw [← hru9] at e_x_2772_0
      obtain ⟨x_2773, rfl⟩ : ∃ z, z = r := ⟨_, rfl⟩
      have hG := hG.trans (un2_eq e_x_2772_0)
      exact wq_i hx hb hr (cI x_2773) ⟨⟨trivial, trivial⟩, (cI_of x_2773)⟩ (fun t ht hW => ⟨x_2769, x_2772, iM_setMany, iM_someOf, iM_allOf, fM_trial, fM_often, (cI_tup hG), Bw.to hP hD hK ht hW⟩) hS dX7_fits_16 hlocks
  · skip
    refine va_get (D := (dC, dI)) (ci := 7) (v := .int iM_hasCourt) (C := RX7) (T := TX7) (N := 48) hx hb hts inX7 hown hK hP 0 rfl rfl 14 (by decide) (hts _ wd_385) (fun _ h9 => h9) rfl dX7_fits_5 ?_
    refine lv_if_ne (tgt := 17) hx hb dX7_fits_8 (by decide) (fun c_2774 => ?_) (fun c_2774 => ?_)
    · skip
      have hG := hG.trans (if_neg c_2774)
      have gc_2774 := ti_ne c_2774 rfl kc_0
      refine lv_aload_n hx hb dX7_fits_17 rfl (lv_at hl 0 rfl) ?_
      refine lv_iconst (v := (-1)) hx hb dX7_fits_18 (by decide) ?_
      have hFc := va_freeI hD hS hA
      refine va_calli (va_runV (As := [.int (-1)]) (rest := []) ⟨hx, hb, hml, hown, hts⟩ (tX7_seekSets l dC dI _ oM x_2769 rM_tape iM_taped iM_size iM_at iM_end iM_token iM_whole iM_nameSize iM_fault iM_place x_2770 rM_letters iM_failed iM_hasCourt rM_r fM_r kM_r rM_fresh rM_told fM_told kM_told rM_read rM_st rM_undone rM_kept iM_undos iM_images rM_fresher iM_fresherSize iM_scale iM_night rM_heardRow rM_cutRow iM_breaths iM_cutMany iM_allBreaths rM_trial fM_trial kM_trial rM_words iM_fewestBreaths iM_orderMany iM_orderSum iM_leastOrder rM_often fM_often kM_often iM_setMany iM_someOf iM_allOf iM_allWeight iM_enoughWeight iM_worthSum iM_firstRest iM_leastDrawn (-1) b_iM_taped b_iM_size b_iM_end b_iM_failed b_iM_hasCourt b_iM_undos b_iM_images b_iM_scale b_iM_breaths b_iM_cutMany (by assumption) (by assumption) (by assumption) ⟨r_C1.2.1, r_C1.2.2⟩) (cwV 1 hts (wd_V wd_1182 wd_1183 wd_1184 wd_5 (wd_c wd_1185)) rfl rfl rfl dv_yX7_seekSets_1 ⟨Nat.le_of_ble_eq_true rfl, Nat.le_of_ble_eq_true rfl⟩) ⟨Pw.fb, recvX7 hK hP (q0 := 0) rfl, fun U hU hW => Pw.to hP hD hK hE hS hFc hU hW⟩ rfl rfl hl.1 rfl (lv_room (Nat.le_of_ble_eq_true rfl)) dX7_fits_19 ⟨Nat.le_of_ble_eq_true rfl, Nat.le_of_ble_eq_true rfl⟩) hS (fun q _ h => hFc q h) hFc (fun r u t H locs ht hvm hw hB hz1 hk1 hS => ?_)
      have hru9 := hw.2
      have hw := hw.1
      refine ex_5_1 hB (fun x_2775 x_2776 x_2777 f_2778 f_2779 e_x_2775_0 hB => ?_)
      obtain ⟨hP, hD⟩ := Bw.goA (ws' := [(oc7 oM x_2769 rM_tape iM_taped iM_size iM_at iM_end iM_token iM_whole iM_nameSize iM_fault iM_place x_2770 rM_letters iM_failed iM_hasCourt rM_r rM_fresh rM_told rM_read rM_st rM_undone rM_kept iM_undos iM_images rM_fresher iM_fresherSize iM_scale iM_night rM_heardRow rM_cutRow iM_breaths iM_cutMany iM_allBreaths rM_trial rM_words iM_fewestBreaths iM_orderMany iM_orderSum iM_leastOrder rM_often x_2775 x_2776 x_2777 iM_allWeight iM_enoughWeight iM_worthSum iM_firstRest iM_leastDrawn), (arI rM_r kM_r 287 fM_r), (arI rM_told kM_told 90 fM_told), (arI rM_trial kM_trial 90 f_2778), (arI rM_often kM_often 4 f_2779)]) hB rfl ht hFc rfl
      clear hz1 hk1 hvm ht hB
      rw [← hru9] at e_x_2775_0
      obtain ⟨x_2780, rfl⟩ : ∃ z, z = r := ⟨_, rfl⟩
      have hG := hG.trans (un6_eq e_x_2775_0)
      refine lv_pop hx hb dX7_fits_22 rfl ?_
      refine lv_aload_n hx hb dX7_fits_23 rfl (lv_at hl 0 rfl) ?_
      refine va_get (D := (dC, dI)) (ci := 7) (v := .int x_2775) (C := RX7) (T := TX7) (N := 48) hx hb hts inX7 hown hK hP 0 rfl rfl 40 (by decide) (hts _ wd_1181) (fun _ h9 => h9) rfl dX7_fits_24 ?_
      exact wq_i hx hb hr (cI x_2775) ⟨⟨trivial, trivial⟩, (cI_of x_2775)⟩ (fun t ht hW => ⟨x_2769, x_2770, x_2775, x_2776, x_2777, f_2778, f_2779, (cI_tup hG), Bw.to hP hD hK ht hW⟩) hS dX7_fits_27 hlocks
    · skip
      have hG := hG.trans (if_pos c_2774)
      have gc_2774 := ti_eq c_2774 rfl kc_0
      refine lv_aload_n hx hb dX7_fits_11 rfl (lv_at hl 0 rfl) ?_
      refine lv_iconst (v := 1) hx hb dX7_fits_12 (by decide) ?_
      have hMs := ml_of hD [true, false, false, false, false] (wc := [(oc7 oM x_2769 rM_tape iM_taped iM_size iM_at iM_end iM_token iM_whole iM_nameSize iM_fault iM_place x_2770 rM_letters iM_failed iM_hasCourt rM_r rM_fresh rM_told rM_read rM_st rM_undone rM_kept iM_undos iM_images rM_fresher iM_fresherSize iM_scale iM_night rM_heardRow rM_cutRow iM_breaths iM_cutMany iM_allBreaths rM_trial rM_words iM_fewestBreaths iM_orderMany iM_orderSum iM_leastOrder rM_often iM_setMany iM_someOf iM_allOf iM_allWeight iM_enoughWeight iM_worthSum iM_firstRest iM_leastDrawn)]) rfl
      have hFc := va_freeM hD hS hA _ hMs
      refine va_calli (va_runV (As := [.int 1]) (rest := []) ⟨hx, hb, hml, hown, hts⟩ (tX7_no l dC dI _ oM x_2769 rM_tape iM_taped iM_size iM_at iM_end iM_token iM_whole iM_nameSize iM_fault iM_place x_2770 rM_letters iM_failed iM_hasCourt rM_r rM_fresh rM_told rM_read rM_st rM_undone rM_kept iM_undos iM_images rM_fresher iM_fresherSize iM_scale iM_night rM_heardRow rM_cutRow iM_breaths iM_cutMany iM_allBreaths rM_trial rM_words iM_fewestBreaths iM_orderMany iM_orderSum iM_leastOrder rM_often iM_setMany iM_someOf iM_allOf iM_allWeight iM_enoughWeight iM_worthSum iM_firstRest iM_leastDrawn 1 b_iM_taped b_iM_size b_iM_end b_iM_failed b_iM_hasCourt b_iM_undos b_iM_images b_iM_scale b_iM_breaths b_iM_cutMany) (cwV 1 hts (wd_V wd_396 wd_397 wd_398 wd_5 (wd_c wd_399)) rfl rfl rfl dv_yX7_no_1 ⟨Nat.le_of_ble_eq_true rfl, Nat.le_of_ble_eq_true rfl⟩) ⟨Pw.fb, recvX7 hK hP (q0 := 0) rfl, fun U hU hW => Pw.to (hP.ms _ hMs) (hD.ms _ hMs) (hK.ms [false, false, false, false] rfl) hE hS hFc hU hW⟩ rfl rfl hl.1 rfl (lv_room (Nat.le_of_ble_eq_true rfl)) dX7_fits_13 ⟨Nat.le_of_ble_eq_true rfl, Nat.le_of_ble_eq_true rfl⟩) hS (fun q _ h => hFc q h) hFc (fun r u t H locs ht hvm hw hB hz1 hk1 hS => ?_)
      have hru9 := hw.2
      have hw := hw.1
      refine ex_1_1 hB (fun x_2781 e_x_2781_0 hB => ?_)
      obtain ⟨hP, hD⟩ := Bw.goN (ws' := [(oc7 oM x_2769 rM_tape iM_taped iM_size iM_at iM_end iM_token iM_whole iM_nameSize iM_fault iM_place x_2781 rM_letters iM_failed iM_hasCourt rM_r rM_fresh rM_told rM_read rM_st rM_undone rM_kept iM_undos iM_images rM_fresher iM_fresherSize iM_scale iM_night rM_heardRow rM_cutRow iM_breaths iM_cutMany iM_allBreaths rM_trial rM_words iM_fewestBreaths iM_orderMany iM_orderSum iM_leastOrder rM_often iM_setMany iM_someOf iM_allOf iM_allWeight iM_enoughWeight iM_worthSum iM_firstRest iM_leastDrawn), (arI rM_r kM_r 287 fM_r), (arI rM_told kM_told 90 fM_told), (arI rM_trial kM_trial 90 fM_trial), (arI rM_often kM_often 4 fM_often)]) hB rfl ht hP hD _ hMs hk1 hFc rfl
      clear hz1 hk1 hvm ht hB hMs
      rw [← hru9] at e_x_2781_0
      obtain ⟨x_2782, rfl⟩ : ∃ z, z = r := ⟨_, rfl⟩
      have hG := hG.trans (un2_eq e_x_2781_0)
      exact wq_i hx hb hr (cI x_2782) ⟨⟨trivial, trivial⟩, (cI_of x_2782)⟩ (fun t ht hW => ⟨x_2769, x_2781, iM_setMany, iM_someOf, iM_allOf, fM_trial, fM_often, (cI_tup hG), Bw.to hP hD hK ht hW⟩) hS dX7_fits_16 hlocks
set_option maxHeartbeats 4000000 in
set_option maxRecDepth 100000 in
theorem tX7_could (l : Launch) (dC : Nat → ClassId) (dI : Nat → Nat → Nat) (sz : Nat) (oM : Nat) (iM_thrown : Int32) (rM_tape : Nat) (iM_taped : Int32) (iM_size : Int32) (iM_at : Int32) (iM_end : Int32) (iM_token : Int32) (iM_whole : Int32) (iM_nameSize : Int32) (iM_fault : Int32) (iM_place : Int32) (iM_trouble : Int32) (rM_letters : Nat) (iM_failed : Int32) (iM_hasCourt : Int32) (rM_r : Nat) (fM_r : Nat → Int32) (kM_r : ClassId) (rM_fresh : Nat) (rM_told : Nat) (fM_told : Nat → Int32) (kM_told : ClassId) (rM_read : Nat) (rM_st : Nat) (rM_undone : Nat) (rM_kept : Nat) (iM_undos : Int32) (iM_images : Int32) (rM_fresher : Nat) (iM_fresherSize : Int32) (iM_scale : Int32) (iM_night : Int32) (rM_heardRow : Nat) (rM_cutRow : Nat) (iM_breaths : Int32) (iM_cutMany : Int32) (iM_allBreaths : Int32) (rM_trial : Nat) (fM_trial : Nat → Int32) (kM_trial : ClassId) (rM_words : Nat) (iM_fewestBreaths : Int32) (iM_orderMany : Int32) (iM_orderSum : Int32) (iM_leastOrder : Int32) (rM_often : Nat) (fM_often : Nat → Int32) (kM_often : ClassId) (iM_setMany : Int32) (iM_someOf : Int32) (iM_allOf : Int32) (iM_allWeight : Int64) (iM_enoughWeight : Int64) (iM_worthSum : Int64) (iM_firstRest : Int32) (iM_leastDrawn : Int32) (b_iM_taped : 0 ≤ iM_taped.toInt ∧ iM_taped.toInt ≤ 900) (b_iM_size : 0 ≤ iM_size.toInt ∧ iM_size.toInt ≤ 900) (b_iM_end : 0 ≤ iM_end.toInt ∧ iM_end.toInt ≤ 900) (b_iM_failed : 0 ≤ iM_failed.toInt ∧ iM_failed.toInt ≤ 1) (b_iM_hasCourt : 0 ≤ iM_hasCourt.toInt ∧ iM_hasCourt.toInt ≤ 1) (b_iM_undos : 0 ≤ iM_undos.toInt ∧ iM_undos.toInt ≤ 16) (b_iM_images : 0 ≤ iM_images.toInt ∧ iM_images.toInt ≤ 3) (b_iM_scale : 1 ≤ iM_scale.toInt ∧ iM_scale.toInt ≤ 1296) (b_iM_breaths : 0 ≤ iM_breaths.toInt ∧ iM_breaths.toInt ≤ 399) (b_iM_cutMany : 0 ≤ iM_cutMany.toInt ∧ iM_cutMany.toInt ≤ 399) (r_R : ROk fM_r) (r_C : iM_hasCourt.toInt ≤ 0 ∨ (1 ≤ (fM_r 1).toInt ∧ 0 ≤ (fM_r 6).toInt ∧ (fM_r 6).toInt < (fM_r 1).toInt)) (r_told : RowOk fM_r fM_told)  : Met l yX7_could (Cond.code yX7_could cX7_could 1 (some .int) :: wG) ({ frames := 24, cells := 0, slots := 0, locals := 630 }) (va_Pc [.ref oM] (Pw dC dI sz [(oc7 oM iM_thrown rM_tape iM_taped iM_size iM_at iM_end iM_token iM_whole iM_nameSize iM_fault iM_place iM_trouble rM_letters iM_failed iM_hasCourt rM_r rM_fresh rM_told rM_read rM_st rM_undone rM_kept iM_undos iM_images rM_fresher iM_fresherSize iM_scale iM_night rM_heardRow rM_cutRow iM_breaths iM_cutMany iM_allBreaths rM_trial rM_words iM_fewestBreaths iM_orderMany iM_orderSum iM_leastOrder rM_often iM_setMany iM_someOf iM_allOf iM_allWeight iM_enoughWeight iM_worthSum iM_firstRest iM_leastDrawn), (arI rM_r kM_r 287 fM_r), (arI rM_told kM_told 90 fM_told), (arI rM_trial kM_trial 90 fM_trial), (arI rM_often kM_often 4 fM_often)] [(kM_r, .int), (kM_told, .int), (kM_trial, .int), (kM_often, .int)])) (va_Qi (fun (r : Int32) (u : Nat) => (True ∧ True) ∧ r = Int32.ofNat u) (fun (u : Nat) (t : State) => ∃ (niM_thrown : Int32) (niM_trouble : Int32) (niM_setMany : Int32) (niM_someOf : Int32) (niM_allOf : Int32) (nfM_trial : Nat → Int32) (nfM_often : Nat → Int32), (PX7_could iM_hasCourt fM_r fM_told iM_scale iM_night fM_trial fM_often iM_setMany iM_someOf iM_allOf = (Int32.ofNat u, niM_thrown, niM_trouble, niM_setMany, niM_someOf, niM_allOf, nfM_trial, nfM_often)) ∧ Bw dC dI (va_A [(oc7 oM iM_thrown rM_tape iM_taped iM_size iM_at iM_end iM_token iM_whole iM_nameSize iM_fault iM_place iM_trouble rM_letters iM_failed iM_hasCourt rM_r rM_fresh rM_told rM_read rM_st rM_undone rM_kept iM_undos iM_images rM_fresher iM_fresherSize iM_scale iM_night rM_heardRow rM_cutRow iM_breaths iM_cutMany iM_allBreaths rM_trial rM_words iM_fewestBreaths iM_orderMany iM_orderSum iM_leastOrder rM_often iM_setMany iM_someOf iM_allOf iM_allWeight iM_enoughWeight iM_worthSum iM_firstRest iM_leastDrawn), (arI rM_r kM_r 287 fM_r), (arI rM_told kM_told 90 fM_told), (arI rM_trial kM_trial 90 fM_trial), (arI rM_often kM_often 4 fM_often)] sz) [(oc7 oM niM_thrown rM_tape iM_taped iM_size iM_at iM_end iM_token iM_whole iM_nameSize iM_fault iM_place niM_trouble rM_letters iM_failed iM_hasCourt rM_r rM_fresh rM_told rM_read rM_st rM_undone rM_kept iM_undos iM_images rM_fresher iM_fresherSize iM_scale iM_night rM_heardRow rM_cutRow iM_breaths iM_cutMany iM_allBreaths rM_trial rM_words iM_fewestBreaths iM_orderMany iM_orderSum iM_leastOrder rM_often niM_setMany niM_someOf niM_allOf iM_allWeight iM_enoughWeight iM_worthSum iM_firstRest iM_leastDrawn), (arI rM_r kM_r 287 fM_r), (arI rM_told kM_told 90 fM_told), (arI rM_trial kM_trial 90 nfM_trial), (arI rM_often kM_often 4 nfM_often)] [(kM_r, .int), (kM_told, .int), (kM_trial, .int), (kM_often, .int)] t) (va_A [(oc7 oM iM_thrown rM_tape iM_taped iM_size iM_at iM_end iM_token iM_whole iM_nameSize iM_fault iM_place iM_trouble rM_letters iM_failed iM_hasCourt rM_r rM_fresh rM_told rM_read rM_st rM_undone rM_kept iM_undos iM_images rM_fresher iM_fresherSize iM_scale iM_night rM_heardRow rM_cutRow iM_breaths iM_cutMany iM_allBreaths rM_trial rM_words iM_fewestBreaths iM_orderMany iM_orderSum iM_leastOrder rM_often iM_setMany iM_someOf iM_allOf iM_allWeight iM_enoughWeight iM_worthSum iM_firstRest iM_leastDrawn), (arI rM_r kM_r 287 fM_r), (arI rM_told kM_told 90 fM_told), (arI rM_trial kM_trial 90 fM_trial), (arI rM_often kM_often 4 fM_often)] sz)) 0 0 (va_A [(oc7 oM iM_thrown rM_tape iM_taped iM_size iM_at iM_end iM_token iM_whole iM_nameSize iM_fault iM_place iM_trouble rM_letters iM_failed iM_hasCourt rM_r rM_fresh rM_told rM_read rM_st rM_undone rM_kept iM_undos iM_images rM_fresher iM_fresherSize iM_scale iM_night rM_heardRow rM_cutRow iM_breaths iM_cutMany iM_allBreaths rM_trial rM_words iM_fewestBreaths iM_orderMany iM_orderSum iM_leastOrder rM_often iM_setMany iM_someOf iM_allOf iM_allWeight iM_enoughWeight iM_worthSum iM_firstRest iM_leastDrawn), (arI rM_r kM_r 287 fM_r), (arI rM_told kM_told 90 fM_told), (arI rM_trial kM_trial 90 fM_trial), (arI rM_often kM_often 4 fM_often)] sz) := by
  refine Met.ofW (cc := cX7_could) (maxL := 1) (ret := (some .int)) pnX7 rfl ?_
  intro p e s m args below meth c s₁ B hml hv
  obtain ⟨rfl, hsz, hP, hK, hD0, hE⟩ := hv
  have hx := B.exec
  have hb := B.bytes
  have hr := B.returns
  have hts : ∀ w ∈ wG, w.before ([.ref oM] : List Value).toArray s = true := fun w h => atoms_spec (ws := Cond.code yX7_could cX7_could 1 (some .int) :: wG) B.pre w (List.mem_cons_of_mem _ h)
  have hown : s.vm.findClass RX7 = some m.cls := own_of B.named rfl
  have hlocks := B.notSynchronized
  subst hsz
  have hD := hD0.self (sz := s.heap.size)
  generalize hAe : va_A [(oc7 oM iM_thrown rM_tape iM_taped iM_size iM_at iM_end iM_token iM_whole iM_nameSize iM_fault iM_place iM_trouble rM_letters iM_failed iM_hasCourt rM_r rM_fresh rM_told rM_read rM_st rM_undone rM_kept iM_undos iM_images rM_fresher iM_fresherSize iM_scale iM_night rM_heardRow rM_cutRow iM_breaths iM_cutMany iM_allBreaths rM_trial rM_words iM_fewestBreaths iM_orderMany iM_orderSum iM_leastOrder rM_often iM_setMany iM_someOf iM_allOf iM_allWeight iM_enoughWeight iM_worthSum iM_firstRest iM_leastDrawn), (arI rM_r kM_r 287 fM_r), (arI rM_told kM_told 90 fM_told), (arI rM_trial kM_trial 90 fM_trial), (arI rM_often kM_often 4 fM_often)] s.heap.size = A at hD hE ⊢
  have hA : ∀ q : Nat, s.heap.size ≤ q → A q := fun q h => by rw [← hAe]; exact Or.inr h
  have hS : va_S A s.heap s.heap [] := va_S.rf
  have hl := lv_entry ([.ref oM]) (n := 1) (Nat.le_of_ble_eq_true rfl)
  rw [lg_entry_eq]
  generalize (lg_sl ([.ref oM]) ++ List.replicate (1 - (lg_sl ([.ref oM])).length) Slot.unset).toArray = ls at hl ⊢
  have hl : lv_has ls 1 [(0, .ref oM)] := hl
  have hG := PX7_could_eq iM_hasCourt fM_r fM_told iM_scale iM_night fM_trial fM_often iM_setMany iM_someOf iM_allOf
  have s_slips := r_R.slips
  have s_nodes := r_R.nodes
  have s_uns := r_R.uns
  refine lv_aload_n hx hb dX7_could_0 rfl (lv_at hl 0 rfl) ?_
  have hMs := ml_of hD [true, false, false, false, false] (wc := [(oc7 oM iM_thrown rM_tape iM_taped iM_size iM_at iM_end iM_token iM_whole iM_nameSize iM_fault iM_place iM_trouble rM_letters iM_failed iM_hasCourt rM_r rM_fresh rM_told rM_read rM_st rM_undone rM_kept iM_undos iM_images rM_fresher iM_fresherSize iM_scale iM_night rM_heardRow rM_cutRow iM_breaths iM_cutMany iM_allBreaths rM_trial rM_words iM_fewestBreaths iM_orderMany iM_orderSum iM_leastOrder rM_often iM_setMany iM_someOf iM_allOf iM_allWeight iM_enoughWeight iM_worthSum iM_firstRest iM_leastDrawn)]) rfl
  have hFc := va_freeM hD hS hA _ hMs
  refine va_callv (va_runV (As := []) (rest := []) ⟨hx, hb, hml, hown, hts⟩ (tX7_good l dC dI _ oM iM_thrown rM_tape iM_taped iM_size iM_at iM_end iM_token iM_whole iM_nameSize iM_fault iM_place iM_trouble rM_letters iM_failed iM_hasCourt rM_r rM_fresh rM_told rM_read rM_st rM_undone rM_kept iM_undos iM_images rM_fresher iM_fresherSize iM_scale iM_night rM_heardRow rM_cutRow iM_breaths iM_cutMany iM_allBreaths rM_trial rM_words iM_fewestBreaths iM_orderMany iM_orderSum iM_leastOrder rM_often iM_setMany iM_someOf iM_allOf iM_allWeight iM_enoughWeight iM_worthSum iM_firstRest iM_leastDrawn b_iM_taped b_iM_size b_iM_end b_iM_failed b_iM_hasCourt b_iM_undos b_iM_images b_iM_scale b_iM_breaths b_iM_cutMany) (cwV 0 hts (wd_V wd_388 wd_389 wd_390 wd_5 (wd_c wd_391)) rfl rfl rfl dv_yX7_good_0 ⟨Nat.le_of_ble_eq_true rfl, Nat.le_of_ble_eq_true rfl⟩) ⟨Pw.fb, recvX7 hK hP (q0 := 0) rfl, fun U hU hW => Pw.to (hP.ms _ hMs) (hD.ms _ hMs) (hK.ms [false, false, false, false] rfl) hE hS hFc hU hW⟩ rfl rfl hl.1 rfl (lv_room (Nat.le_of_ble_eq_true rfl)) dX7_could_1 ⟨Nat.le_of_ble_eq_true rfl, Nat.le_of_ble_eq_true rfl⟩) hS (fun q _ h => hFc q h) hFc (fun u t H locs ht hvm hw hB hz1 hk1 hS => ?_)
  refine ex_2_3 hB (fun x_2797 x_2798 b_x_2797 b_x_2798 e_x_2797_0 hB => ?_)
  obtain ⟨hP, hD⟩ := Bw.goN (ws' := [(oc7 oM x_2797 rM_tape iM_taped iM_size iM_at iM_end iM_token iM_whole iM_nameSize iM_fault iM_place x_2798 rM_letters iM_failed iM_hasCourt rM_r rM_fresh rM_told rM_read rM_st rM_undone rM_kept iM_undos iM_images rM_fresher iM_fresherSize iM_scale iM_night rM_heardRow rM_cutRow iM_breaths iM_cutMany iM_allBreaths rM_trial rM_words iM_fewestBreaths iM_orderMany iM_orderSum iM_leastOrder rM_often iM_setMany iM_someOf iM_allOf iM_allWeight iM_enoughWeight iM_worthSum iM_firstRest iM_leastDrawn), (arI rM_r kM_r 287 fM_r), (arI rM_told kM_told 90 fM_told), (arI rM_trial kM_trial 90 fM_trial), (arI rM_often kM_often 4 fM_often)]) hB rfl ht hP hD _ hMs hk1 hFc rfl
  clear hz1 hk1 hvm ht hB hMs
  have hG := hG.trans (un2_eq e_x_2797_0)
  refine lv_aload_n hx hb dX7_could_4 rfl (lv_at hl 0 rfl) ?_
  rcases (id r_C) with r_C0 | r_C1
  · skip
    refine va_get (D := (dC, dI)) (ci := 7) (v := .int iM_hasCourt) (C := RX7) (T := TX7) (N := 48) hx hb hts inX7 hown hK hP 0 rfl rfl 14 (by decide) (hts _ wd_385) (fun _ h9 => h9) rfl dX7_could_5 ?_
    refine lv_if_ne (tgt := 17) hx hb dX7_could_8 (by decide) (fun c_2799 => ?_) (fun c_2799 => ?_)
    · skip
      have hG := hG.trans (if_neg c_2799)
      have gc_2799 := ti_ne c_2799 rfl kc_0
      exact (om_c9ba8b89 gc_2799 r_C0 b_iM_hasCourt.1).elim
    · skip
      have hG := hG.trans (if_pos c_2799)
      have gc_2799 := ti_eq c_2799 rfl kc_0
      refine lv_aload_n hx hb dX7_could_11 rfl (lv_at hl 0 rfl) ?_
      refine lv_iconst (v := 1) hx hb dX7_could_12 (by decide) ?_
      have hMs := ml_of hD [true, false, false, false, false] (wc := [(oc7 oM x_2797 rM_tape iM_taped iM_size iM_at iM_end iM_token iM_whole iM_nameSize iM_fault iM_place x_2798 rM_letters iM_failed iM_hasCourt rM_r rM_fresh rM_told rM_read rM_st rM_undone rM_kept iM_undos iM_images rM_fresher iM_fresherSize iM_scale iM_night rM_heardRow rM_cutRow iM_breaths iM_cutMany iM_allBreaths rM_trial rM_words iM_fewestBreaths iM_orderMany iM_orderSum iM_leastOrder rM_often iM_setMany iM_someOf iM_allOf iM_allWeight iM_enoughWeight iM_worthSum iM_firstRest iM_leastDrawn)]) rfl
      have hFc := va_freeM hD hS hA _ hMs
      refine va_calli (va_runV (As := [.int 1]) (rest := []) ⟨hx, hb, hml, hown, hts⟩ (tX7_no l dC dI _ oM x_2797 rM_tape iM_taped iM_size iM_at iM_end iM_token iM_whole iM_nameSize iM_fault iM_place x_2798 rM_letters iM_failed iM_hasCourt rM_r rM_fresh rM_told rM_read rM_st rM_undone rM_kept iM_undos iM_images rM_fresher iM_fresherSize iM_scale iM_night rM_heardRow rM_cutRow iM_breaths iM_cutMany iM_allBreaths rM_trial rM_words iM_fewestBreaths iM_orderMany iM_orderSum iM_leastOrder rM_often iM_setMany iM_someOf iM_allOf iM_allWeight iM_enoughWeight iM_worthSum iM_firstRest iM_leastDrawn 1 b_iM_taped b_iM_size b_iM_end b_iM_failed b_iM_hasCourt b_iM_undos b_iM_images b_iM_scale b_iM_breaths b_iM_cutMany) (cwV 1 hts (wd_V wd_396 wd_397 wd_398 wd_5 (wd_c wd_399)) rfl rfl rfl dv_yX7_no_1 ⟨Nat.le_of_ble_eq_true rfl, Nat.le_of_ble_eq_true rfl⟩) ⟨Pw.fb, recvX7 hK hP (q0 := 0) rfl, fun U hU hW => Pw.to (hP.ms _ hMs) (hD.ms _ hMs) (hK.ms [false, false, false, false] rfl) hE hS hFc hU hW⟩ rfl rfl hl.1 rfl (lv_room (Nat.le_of_ble_eq_true rfl)) dX7_could_13 ⟨Nat.le_of_ble_eq_true rfl, Nat.le_of_ble_eq_true rfl⟩) hS (fun q _ h => hFc q h) hFc (fun r u t H locs ht hvm hw hB hz1 hk1 hS => ?_)
      have hru9 := hw.2
      have hw := hw.1
      refine ex_1_1 hB (fun x_2800 e_x_2800_0 hB => ?_)
      obtain ⟨hP, hD⟩ := Bw.goN (ws' := [(oc7 oM x_2797 rM_tape iM_taped iM_size iM_at iM_end iM_token iM_whole iM_nameSize iM_fault iM_place x_2800 rM_letters iM_failed iM_hasCourt rM_r rM_fresh rM_told rM_read rM_st rM_undone rM_kept iM_undos iM_images rM_fresher iM_fresherSize iM_scale iM_night rM_heardRow rM_cutRow iM_breaths iM_cutMany iM_allBreaths rM_trial rM_words iM_fewestBreaths iM_orderMany iM_orderSum iM_leastOrder rM_often iM_setMany iM_someOf iM_allOf iM_allWeight iM_enoughWeight iM_worthSum iM_firstRest iM_leastDrawn), (arI rM_r kM_r 287 fM_r), (arI rM_told kM_told 90 fM_told), (arI rM_trial kM_trial 90 fM_trial), (arI rM_often kM_often 4 fM_often)]) hB rfl ht hP hD _ hMs hk1 hFc rfl
      clear hz1 hk1 hvm ht hB hMs
      rw [← hru9] at e_x_2800_0
      obtain ⟨x_2801, rfl⟩ : ∃ z, z = r := ⟨_, rfl⟩
      have hG := hG.trans (un2_eq e_x_2800_0)
      exact wq_i hx hb hr (cI x_2801) ⟨⟨trivial, trivial⟩, (cI_of x_2801)⟩ (fun t ht hW => ⟨x_2797, x_2800, iM_setMany, iM_someOf, iM_allOf, fM_trial, fM_often, (cI_tup hG), Bw.to hP hD hK ht hW⟩) hS dX7_could_16 hlocks
  · skip
    refine va_get (D := (dC, dI)) (ci := 7) (v := .int iM_hasCourt) (C := RX7) (T := TX7) (N := 48) hx hb hts inX7 hown hK hP 0 rfl rfl 14 (by decide) (hts _ wd_385) (fun _ h9 => h9) rfl dX7_could_5 ?_
    refine lv_if_ne (tgt := 17) hx hb dX7_could_8 (by decide) (fun c_2802 => ?_) (fun c_2802 => ?_)
    · skip
      have hG := hG.trans (if_neg c_2802)
      have gc_2802 := ti_ne c_2802 rfl kc_0
      refine lv_aload_n hx hb dX7_could_17 rfl (lv_at hl 0 rfl) ?_
      refine lv_iconst (v := (-1)) hx hb dX7_could_18 (by decide) ?_
      have hFc := va_freeI hD hS hA
      refine va_calli (va_runV (As := [.int (-1)]) (rest := []) ⟨hx, hb, hml, hown, hts⟩ (tX7_seekSets l dC dI _ oM x_2797 rM_tape iM_taped iM_size iM_at iM_end iM_token iM_whole iM_nameSize iM_fault iM_place x_2798 rM_letters iM_failed iM_hasCourt rM_r fM_r kM_r rM_fresh rM_told fM_told kM_told rM_read rM_st rM_undone rM_kept iM_undos iM_images rM_fresher iM_fresherSize iM_scale iM_night rM_heardRow rM_cutRow iM_breaths iM_cutMany iM_allBreaths rM_trial fM_trial kM_trial rM_words iM_fewestBreaths iM_orderMany iM_orderSum iM_leastOrder rM_often fM_often kM_often iM_setMany iM_someOf iM_allOf iM_allWeight iM_enoughWeight iM_worthSum iM_firstRest iM_leastDrawn (-1) b_iM_taped b_iM_size b_iM_end b_iM_failed b_iM_hasCourt b_iM_undos b_iM_images b_iM_scale b_iM_breaths b_iM_cutMany (by assumption) (by assumption) (by assumption) ⟨r_C1.2.1, r_C1.2.2⟩) (cwV 1 hts (wd_V wd_1182 wd_1183 wd_1184 wd_5 (wd_c wd_1185)) rfl rfl rfl dv_yX7_seekSets_1 ⟨Nat.le_of_ble_eq_true rfl, Nat.le_of_ble_eq_true rfl⟩) ⟨Pw.fb, recvX7 hK hP (q0 := 0) rfl, fun U hU hW => Pw.to hP hD hK hE hS hFc hU hW⟩ rfl rfl hl.1 rfl (lv_room (Nat.le_of_ble_eq_true rfl)) dX7_could_19 ⟨Nat.le_of_ble_eq_true rfl, Nat.le_of_ble_eq_true rfl⟩) hS (fun q _ h => hFc q h) hFc (fun r u t H locs ht hvm hw hB hz1 hk1 hS => ?_)
      have hru9 := hw.2
      have hw := hw.1
      refine ex_5_1 hB (fun x_2803 x_2804 x_2805 f_2806 f_2807 e_x_2803_0 hB => ?_)
      obtain ⟨hP, hD⟩ := Bw.goA (ws' := [(oc7 oM x_2797 rM_tape iM_taped iM_size iM_at iM_end iM_token iM_whole iM_nameSize iM_fault iM_place x_2798 rM_letters iM_failed iM_hasCourt rM_r rM_fresh rM_told rM_read rM_st rM_undone rM_kept iM_undos iM_images rM_fresher iM_fresherSize iM_scale iM_night rM_heardRow rM_cutRow iM_breaths iM_cutMany iM_allBreaths rM_trial rM_words iM_fewestBreaths iM_orderMany iM_orderSum iM_leastOrder rM_often x_2803 x_2804 x_2805 iM_allWeight iM_enoughWeight iM_worthSum iM_firstRest iM_leastDrawn), (arI rM_r kM_r 287 fM_r), (arI rM_told kM_told 90 fM_told), (arI rM_trial kM_trial 90 f_2806), (arI rM_often kM_often 4 f_2807)]) hB rfl ht hFc rfl
      clear hz1 hk1 hvm ht hB
      rw [← hru9] at e_x_2803_0
      obtain ⟨x_2808, rfl⟩ : ∃ z, z = r := ⟨_, rfl⟩
      have hG := hG.trans (un6_eq e_x_2803_0)
      refine lv_pop hx hb dX7_could_22 rfl ?_
      refine lv_aload_n hx hb dX7_could_23 rfl (lv_at hl 0 rfl) ?_
      refine va_get (D := (dC, dI)) (ci := 7) (v := .int x_2804) (C := RX7) (T := TX7) (N := 48) hx hb hts inX7 hown hK hP 0 rfl rfl 41 (by decide) (hts _ wd_1186) (fun _ h9 => h9) rfl dX7_could_24 ?_
      exact wq_i hx hb hr (cI x_2804) ⟨⟨trivial, trivial⟩, (cI_of x_2804)⟩ (fun t ht hW => ⟨x_2797, x_2798, x_2803, x_2804, x_2805, f_2806, f_2807, (cI_tup hG), Bw.to hP hD hK ht hW⟩) hS dX7_could_27 hlocks
    · skip
      have hG := hG.trans (if_pos c_2802)
      have gc_2802 := ti_eq c_2802 rfl kc_0
      refine lv_aload_n hx hb dX7_could_11 rfl (lv_at hl 0 rfl) ?_
      refine lv_iconst (v := 1) hx hb dX7_could_12 (by decide) ?_
      have hMs := ml_of hD [true, false, false, false, false] (wc := [(oc7 oM x_2797 rM_tape iM_taped iM_size iM_at iM_end iM_token iM_whole iM_nameSize iM_fault iM_place x_2798 rM_letters iM_failed iM_hasCourt rM_r rM_fresh rM_told rM_read rM_st rM_undone rM_kept iM_undos iM_images rM_fresher iM_fresherSize iM_scale iM_night rM_heardRow rM_cutRow iM_breaths iM_cutMany iM_allBreaths rM_trial rM_words iM_fewestBreaths iM_orderMany iM_orderSum iM_leastOrder rM_often iM_setMany iM_someOf iM_allOf iM_allWeight iM_enoughWeight iM_worthSum iM_firstRest iM_leastDrawn)]) rfl
      have hFc := va_freeM hD hS hA _ hMs
      refine va_calli (va_runV (As := [.int 1]) (rest := []) ⟨hx, hb, hml, hown, hts⟩ (tX7_no l dC dI _ oM x_2797 rM_tape iM_taped iM_size iM_at iM_end iM_token iM_whole iM_nameSize iM_fault iM_place x_2798 rM_letters iM_failed iM_hasCourt rM_r rM_fresh rM_told rM_read rM_st rM_undone rM_kept iM_undos iM_images rM_fresher iM_fresherSize iM_scale iM_night rM_heardRow rM_cutRow iM_breaths iM_cutMany iM_allBreaths rM_trial rM_words iM_fewestBreaths iM_orderMany iM_orderSum iM_leastOrder rM_often iM_setMany iM_someOf iM_allOf iM_allWeight iM_enoughWeight iM_worthSum iM_firstRest iM_leastDrawn 1 b_iM_taped b_iM_size b_iM_end b_iM_failed b_iM_hasCourt b_iM_undos b_iM_images b_iM_scale b_iM_breaths b_iM_cutMany) (cwV 1 hts (wd_V wd_396 wd_397 wd_398 wd_5 (wd_c wd_399)) rfl rfl rfl dv_yX7_no_1 ⟨Nat.le_of_ble_eq_true rfl, Nat.le_of_ble_eq_true rfl⟩) ⟨Pw.fb, recvX7 hK hP (q0 := 0) rfl, fun U hU hW => Pw.to (hP.ms _ hMs) (hD.ms _ hMs) (hK.ms [false, false, false, false] rfl) hE hS hFc hU hW⟩ rfl rfl hl.1 rfl (lv_room (Nat.le_of_ble_eq_true rfl)) dX7_could_13 ⟨Nat.le_of_ble_eq_true rfl, Nat.le_of_ble_eq_true rfl⟩) hS (fun q _ h => hFc q h) hFc (fun r u t H locs ht hvm hw hB hz1 hk1 hS => ?_)
      have hru9 := hw.2
      have hw := hw.1
      refine ex_1_1 hB (fun x_2809 e_x_2809_0 hB => ?_)
      obtain ⟨hP, hD⟩ := Bw.goN (ws' := [(oc7 oM x_2797 rM_tape iM_taped iM_size iM_at iM_end iM_token iM_whole iM_nameSize iM_fault iM_place x_2809 rM_letters iM_failed iM_hasCourt rM_r rM_fresh rM_told rM_read rM_st rM_undone rM_kept iM_undos iM_images rM_fresher iM_fresherSize iM_scale iM_night rM_heardRow rM_cutRow iM_breaths iM_cutMany iM_allBreaths rM_trial rM_words iM_fewestBreaths iM_orderMany iM_orderSum iM_leastOrder rM_often iM_setMany iM_someOf iM_allOf iM_allWeight iM_enoughWeight iM_worthSum iM_firstRest iM_leastDrawn), (arI rM_r kM_r 287 fM_r), (arI rM_told kM_told 90 fM_told), (arI rM_trial kM_trial 90 fM_trial), (arI rM_often kM_often 4 fM_often)]) hB rfl ht hP hD _ hMs hk1 hFc rfl
      clear hz1 hk1 hvm ht hB hMs
      rw [← hru9] at e_x_2809_0
      obtain ⟨x_2810, rfl⟩ : ∃ z, z = r := ⟨_, rfl⟩
      have hG := hG.trans (un2_eq e_x_2809_0)
      exact wq_i hx hb hr (cI x_2810) ⟨⟨trivial, trivial⟩, (cI_of x_2810)⟩ (fun t ht hW => ⟨x_2797, x_2809, iM_setMany, iM_someOf, iM_allOf, fM_trial, fM_often, (cI_tup hG), Bw.to hP hD hK ht hW⟩) hS dX7_could_16 hlocks
set_option maxHeartbeats 4000000 in
set_option maxRecDepth 100000 in
theorem tX7_surely (l : Launch) (dC : Nat → ClassId) (dI : Nat → Nat → Nat) (sz : Nat) (oM : Nat) (iM_thrown : Int32) (rM_tape : Nat) (iM_taped : Int32) (iM_size : Int32) (iM_at : Int32) (iM_end : Int32) (iM_token : Int32) (iM_whole : Int32) (iM_nameSize : Int32) (iM_fault : Int32) (iM_place : Int32) (iM_trouble : Int32) (rM_letters : Nat) (iM_failed : Int32) (iM_hasCourt : Int32) (rM_r : Nat) (fM_r : Nat → Int32) (kM_r : ClassId) (rM_fresh : Nat) (rM_told : Nat) (fM_told : Nat → Int32) (kM_told : ClassId) (rM_read : Nat) (rM_st : Nat) (rM_undone : Nat) (rM_kept : Nat) (iM_undos : Int32) (iM_images : Int32) (rM_fresher : Nat) (iM_fresherSize : Int32) (iM_scale : Int32) (iM_night : Int32) (rM_heardRow : Nat) (rM_cutRow : Nat) (iM_breaths : Int32) (iM_cutMany : Int32) (iM_allBreaths : Int32) (rM_trial : Nat) (fM_trial : Nat → Int32) (kM_trial : ClassId) (rM_words : Nat) (iM_fewestBreaths : Int32) (iM_orderMany : Int32) (iM_orderSum : Int32) (iM_leastOrder : Int32) (rM_often : Nat) (fM_often : Nat → Int32) (kM_often : ClassId) (iM_setMany : Int32) (iM_someOf : Int32) (iM_allOf : Int32) (iM_allWeight : Int64) (iM_enoughWeight : Int64) (iM_worthSum : Int64) (iM_firstRest : Int32) (iM_leastDrawn : Int32) (b_iM_taped : 0 ≤ iM_taped.toInt ∧ iM_taped.toInt ≤ 900) (b_iM_size : 0 ≤ iM_size.toInt ∧ iM_size.toInt ≤ 900) (b_iM_end : 0 ≤ iM_end.toInt ∧ iM_end.toInt ≤ 900) (b_iM_failed : 0 ≤ iM_failed.toInt ∧ iM_failed.toInt ≤ 1) (b_iM_hasCourt : 0 ≤ iM_hasCourt.toInt ∧ iM_hasCourt.toInt ≤ 1) (b_iM_undos : 0 ≤ iM_undos.toInt ∧ iM_undos.toInt ≤ 16) (b_iM_images : 0 ≤ iM_images.toInt ∧ iM_images.toInt ≤ 3) (b_iM_scale : 1 ≤ iM_scale.toInt ∧ iM_scale.toInt ≤ 1296) (b_iM_breaths : 0 ≤ iM_breaths.toInt ∧ iM_breaths.toInt ≤ 399) (b_iM_cutMany : 0 ≤ iM_cutMany.toInt ∧ iM_cutMany.toInt ≤ 399) (r_R : ROk fM_r) (r_C : iM_hasCourt.toInt ≤ 0 ∨ (1 ≤ (fM_r 1).toInt ∧ 0 ≤ (fM_r 6).toInt ∧ (fM_r 6).toInt < (fM_r 1).toInt)) (r_told : RowOk fM_r fM_told)  : Met l yX7_surely (Cond.code yX7_surely cX7_surely 1 (some .int) :: wG) ({ frames := 24, cells := 0, slots := 0, locals := 630 }) (va_Pc [.ref oM] (Pw dC dI sz [(oc7 oM iM_thrown rM_tape iM_taped iM_size iM_at iM_end iM_token iM_whole iM_nameSize iM_fault iM_place iM_trouble rM_letters iM_failed iM_hasCourt rM_r rM_fresh rM_told rM_read rM_st rM_undone rM_kept iM_undos iM_images rM_fresher iM_fresherSize iM_scale iM_night rM_heardRow rM_cutRow iM_breaths iM_cutMany iM_allBreaths rM_trial rM_words iM_fewestBreaths iM_orderMany iM_orderSum iM_leastOrder rM_often iM_setMany iM_someOf iM_allOf iM_allWeight iM_enoughWeight iM_worthSum iM_firstRest iM_leastDrawn), (arI rM_r kM_r 287 fM_r), (arI rM_told kM_told 90 fM_told), (arI rM_trial kM_trial 90 fM_trial), (arI rM_often kM_often 4 fM_often)] [(kM_r, .int), (kM_told, .int), (kM_trial, .int), (kM_often, .int)])) (va_Qi (fun (r : Int32) (u : Nat) => (True ∧ True) ∧ r = Int32.ofNat u) (fun (u : Nat) (t : State) => ∃ (niM_thrown : Int32) (niM_trouble : Int32) (niM_setMany : Int32) (niM_someOf : Int32) (niM_allOf : Int32) (nfM_trial : Nat → Int32) (nfM_often : Nat → Int32), (PX7_surely iM_hasCourt fM_r fM_told iM_scale iM_night fM_trial fM_often iM_setMany iM_someOf iM_allOf = (Int32.ofNat u, niM_thrown, niM_trouble, niM_setMany, niM_someOf, niM_allOf, nfM_trial, nfM_often)) ∧ Bw dC dI (va_A [(oc7 oM iM_thrown rM_tape iM_taped iM_size iM_at iM_end iM_token iM_whole iM_nameSize iM_fault iM_place iM_trouble rM_letters iM_failed iM_hasCourt rM_r rM_fresh rM_told rM_read rM_st rM_undone rM_kept iM_undos iM_images rM_fresher iM_fresherSize iM_scale iM_night rM_heardRow rM_cutRow iM_breaths iM_cutMany iM_allBreaths rM_trial rM_words iM_fewestBreaths iM_orderMany iM_orderSum iM_leastOrder rM_often iM_setMany iM_someOf iM_allOf iM_allWeight iM_enoughWeight iM_worthSum iM_firstRest iM_leastDrawn), (arI rM_r kM_r 287 fM_r), (arI rM_told kM_told 90 fM_told), (arI rM_trial kM_trial 90 fM_trial), (arI rM_often kM_often 4 fM_often)] sz) [(oc7 oM niM_thrown rM_tape iM_taped iM_size iM_at iM_end iM_token iM_whole iM_nameSize iM_fault iM_place niM_trouble rM_letters iM_failed iM_hasCourt rM_r rM_fresh rM_told rM_read rM_st rM_undone rM_kept iM_undos iM_images rM_fresher iM_fresherSize iM_scale iM_night rM_heardRow rM_cutRow iM_breaths iM_cutMany iM_allBreaths rM_trial rM_words iM_fewestBreaths iM_orderMany iM_orderSum iM_leastOrder rM_often niM_setMany niM_someOf niM_allOf iM_allWeight iM_enoughWeight iM_worthSum iM_firstRest iM_leastDrawn), (arI rM_r kM_r 287 fM_r), (arI rM_told kM_told 90 fM_told), (arI rM_trial kM_trial 90 nfM_trial), (arI rM_often kM_often 4 nfM_often)] [(kM_r, .int), (kM_told, .int), (kM_trial, .int), (kM_often, .int)] t) (va_A [(oc7 oM iM_thrown rM_tape iM_taped iM_size iM_at iM_end iM_token iM_whole iM_nameSize iM_fault iM_place iM_trouble rM_letters iM_failed iM_hasCourt rM_r rM_fresh rM_told rM_read rM_st rM_undone rM_kept iM_undos iM_images rM_fresher iM_fresherSize iM_scale iM_night rM_heardRow rM_cutRow iM_breaths iM_cutMany iM_allBreaths rM_trial rM_words iM_fewestBreaths iM_orderMany iM_orderSum iM_leastOrder rM_often iM_setMany iM_someOf iM_allOf iM_allWeight iM_enoughWeight iM_worthSum iM_firstRest iM_leastDrawn), (arI rM_r kM_r 287 fM_r), (arI rM_told kM_told 90 fM_told), (arI rM_trial kM_trial 90 fM_trial), (arI rM_often kM_often 4 fM_often)] sz)) 0 0 (va_A [(oc7 oM iM_thrown rM_tape iM_taped iM_size iM_at iM_end iM_token iM_whole iM_nameSize iM_fault iM_place iM_trouble rM_letters iM_failed iM_hasCourt rM_r rM_fresh rM_told rM_read rM_st rM_undone rM_kept iM_undos iM_images rM_fresher iM_fresherSize iM_scale iM_night rM_heardRow rM_cutRow iM_breaths iM_cutMany iM_allBreaths rM_trial rM_words iM_fewestBreaths iM_orderMany iM_orderSum iM_leastOrder rM_often iM_setMany iM_someOf iM_allOf iM_allWeight iM_enoughWeight iM_worthSum iM_firstRest iM_leastDrawn), (arI rM_r kM_r 287 fM_r), (arI rM_told kM_told 90 fM_told), (arI rM_trial kM_trial 90 fM_trial), (arI rM_often kM_often 4 fM_often)] sz) := by
  refine Met.ofW (cc := cX7_surely) (maxL := 1) (ret := (some .int)) pnX7 rfl ?_
  intro p e s m args below meth c s₁ B hml hv
  obtain ⟨rfl, hsz, hP, hK, hD0, hE⟩ := hv
  have hx := B.exec
  have hb := B.bytes
  have hr := B.returns
  have hts : ∀ w ∈ wG, w.before ([.ref oM] : List Value).toArray s = true := fun w h => atoms_spec (ws := Cond.code yX7_surely cX7_surely 1 (some .int) :: wG) B.pre w (List.mem_cons_of_mem _ h)
  have hown : s.vm.findClass RX7 = some m.cls := own_of B.named rfl
  have hlocks := B.notSynchronized
  subst hsz
  have hD := hD0.self (sz := s.heap.size)
  generalize hAe : va_A [(oc7 oM iM_thrown rM_tape iM_taped iM_size iM_at iM_end iM_token iM_whole iM_nameSize iM_fault iM_place iM_trouble rM_letters iM_failed iM_hasCourt rM_r rM_fresh rM_told rM_read rM_st rM_undone rM_kept iM_undos iM_images rM_fresher iM_fresherSize iM_scale iM_night rM_heardRow rM_cutRow iM_breaths iM_cutMany iM_allBreaths rM_trial rM_words iM_fewestBreaths iM_orderMany iM_orderSum iM_leastOrder rM_often iM_setMany iM_someOf iM_allOf iM_allWeight iM_enoughWeight iM_worthSum iM_firstRest iM_leastDrawn), (arI rM_r kM_r 287 fM_r), (arI rM_told kM_told 90 fM_told), (arI rM_trial kM_trial 90 fM_trial), (arI rM_often kM_often 4 fM_often)] s.heap.size = A at hD hE ⊢
  have hA : ∀ q : Nat, s.heap.size ≤ q → A q := fun q h => by rw [← hAe]; exact Or.inr h
  have hS : va_S A s.heap s.heap [] := va_S.rf
  have hl := lv_entry ([.ref oM]) (n := 1) (Nat.le_of_ble_eq_true rfl)
  rw [lg_entry_eq]
  generalize (lg_sl ([.ref oM]) ++ List.replicate (1 - (lg_sl ([.ref oM])).length) Slot.unset).toArray = ls at hl ⊢
  have hl : lv_has ls 1 [(0, .ref oM)] := hl
  have hG := PX7_surely_eq iM_hasCourt fM_r fM_told iM_scale iM_night fM_trial fM_often iM_setMany iM_someOf iM_allOf
  have s_slips := r_R.slips
  have s_nodes := r_R.nodes
  have s_uns := r_R.uns
  refine lv_aload_n hx hb dX7_surely_0 rfl (lv_at hl 0 rfl) ?_
  have hMs := ml_of hD [true, false, false, false, false] (wc := [(oc7 oM iM_thrown rM_tape iM_taped iM_size iM_at iM_end iM_token iM_whole iM_nameSize iM_fault iM_place iM_trouble rM_letters iM_failed iM_hasCourt rM_r rM_fresh rM_told rM_read rM_st rM_undone rM_kept iM_undos iM_images rM_fresher iM_fresherSize iM_scale iM_night rM_heardRow rM_cutRow iM_breaths iM_cutMany iM_allBreaths rM_trial rM_words iM_fewestBreaths iM_orderMany iM_orderSum iM_leastOrder rM_often iM_setMany iM_someOf iM_allOf iM_allWeight iM_enoughWeight iM_worthSum iM_firstRest iM_leastDrawn)]) rfl
  have hFc := va_freeM hD hS hA _ hMs
  refine va_callv (va_runV (As := []) (rest := []) ⟨hx, hb, hml, hown, hts⟩ (tX7_good l dC dI _ oM iM_thrown rM_tape iM_taped iM_size iM_at iM_end iM_token iM_whole iM_nameSize iM_fault iM_place iM_trouble rM_letters iM_failed iM_hasCourt rM_r rM_fresh rM_told rM_read rM_st rM_undone rM_kept iM_undos iM_images rM_fresher iM_fresherSize iM_scale iM_night rM_heardRow rM_cutRow iM_breaths iM_cutMany iM_allBreaths rM_trial rM_words iM_fewestBreaths iM_orderMany iM_orderSum iM_leastOrder rM_often iM_setMany iM_someOf iM_allOf iM_allWeight iM_enoughWeight iM_worthSum iM_firstRest iM_leastDrawn b_iM_taped b_iM_size b_iM_end b_iM_failed b_iM_hasCourt b_iM_undos b_iM_images b_iM_scale b_iM_breaths b_iM_cutMany) (cwV 0 hts (wd_V wd_388 wd_389 wd_390 wd_5 (wd_c wd_391)) rfl rfl rfl dv_yX7_good_0 ⟨Nat.le_of_ble_eq_true rfl, Nat.le_of_ble_eq_true rfl⟩) ⟨Pw.fb, recvX7 hK hP (q0 := 0) rfl, fun U hU hW => Pw.to (hP.ms _ hMs) (hD.ms _ hMs) (hK.ms [false, false, false, false] rfl) hE hS hFc hU hW⟩ rfl rfl hl.1 rfl (lv_room (Nat.le_of_ble_eq_true rfl)) dX7_surely_1 ⟨Nat.le_of_ble_eq_true rfl, Nat.le_of_ble_eq_true rfl⟩) hS (fun q _ h => hFc q h) hFc (fun u t H locs ht hvm hw hB hz1 hk1 hS => ?_)
  refine ex_2_3 hB (fun x_2825 x_2826 b_x_2825 b_x_2826 e_x_2825_0 hB => ?_)
  obtain ⟨hP, hD⟩ := Bw.goN (ws' := [(oc7 oM x_2825 rM_tape iM_taped iM_size iM_at iM_end iM_token iM_whole iM_nameSize iM_fault iM_place x_2826 rM_letters iM_failed iM_hasCourt rM_r rM_fresh rM_told rM_read rM_st rM_undone rM_kept iM_undos iM_images rM_fresher iM_fresherSize iM_scale iM_night rM_heardRow rM_cutRow iM_breaths iM_cutMany iM_allBreaths rM_trial rM_words iM_fewestBreaths iM_orderMany iM_orderSum iM_leastOrder rM_often iM_setMany iM_someOf iM_allOf iM_allWeight iM_enoughWeight iM_worthSum iM_firstRest iM_leastDrawn), (arI rM_r kM_r 287 fM_r), (arI rM_told kM_told 90 fM_told), (arI rM_trial kM_trial 90 fM_trial), (arI rM_often kM_often 4 fM_often)]) hB rfl ht hP hD _ hMs hk1 hFc rfl
  clear hz1 hk1 hvm ht hB hMs
  have hG := hG.trans (un2_eq e_x_2825_0)
  refine lv_aload_n hx hb dX7_surely_4 rfl (lv_at hl 0 rfl) ?_
  rcases (id r_C) with r_C0 | r_C1
  · skip
    refine va_get (D := (dC, dI)) (ci := 7) (v := .int iM_hasCourt) (C := RX7) (T := TX7) (N := 48) hx hb hts inX7 hown hK hP 0 rfl rfl 14 (by decide) (hts _ wd_385) (fun _ h9 => h9) rfl dX7_surely_5 ?_
    refine lv_if_ne (tgt := 17) hx hb dX7_surely_8 (by decide) (fun c_2827 => ?_) (fun c_2827 => ?_)
    · skip
      have hG := hG.trans (if_neg c_2827)
      have gc_2827 := ti_ne c_2827 rfl kc_0
      exact (om_c9ba8b89 gc_2827 r_C0 b_iM_hasCourt.1).elim
    · skip
      have hG := hG.trans (if_pos c_2827)
      have gc_2827 := ti_eq c_2827 rfl kc_0
      refine lv_aload_n hx hb dX7_surely_11 rfl (lv_at hl 0 rfl) ?_
      refine lv_iconst (v := 1) hx hb dX7_surely_12 (by decide) ?_
      have hMs := ml_of hD [true, false, false, false, false] (wc := [(oc7 oM x_2825 rM_tape iM_taped iM_size iM_at iM_end iM_token iM_whole iM_nameSize iM_fault iM_place x_2826 rM_letters iM_failed iM_hasCourt rM_r rM_fresh rM_told rM_read rM_st rM_undone rM_kept iM_undos iM_images rM_fresher iM_fresherSize iM_scale iM_night rM_heardRow rM_cutRow iM_breaths iM_cutMany iM_allBreaths rM_trial rM_words iM_fewestBreaths iM_orderMany iM_orderSum iM_leastOrder rM_often iM_setMany iM_someOf iM_allOf iM_allWeight iM_enoughWeight iM_worthSum iM_firstRest iM_leastDrawn)]) rfl
      have hFc := va_freeM hD hS hA _ hMs
      refine va_calli (va_runV (As := [.int 1]) (rest := []) ⟨hx, hb, hml, hown, hts⟩ (tX7_no l dC dI _ oM x_2825 rM_tape iM_taped iM_size iM_at iM_end iM_token iM_whole iM_nameSize iM_fault iM_place x_2826 rM_letters iM_failed iM_hasCourt rM_r rM_fresh rM_told rM_read rM_st rM_undone rM_kept iM_undos iM_images rM_fresher iM_fresherSize iM_scale iM_night rM_heardRow rM_cutRow iM_breaths iM_cutMany iM_allBreaths rM_trial rM_words iM_fewestBreaths iM_orderMany iM_orderSum iM_leastOrder rM_often iM_setMany iM_someOf iM_allOf iM_allWeight iM_enoughWeight iM_worthSum iM_firstRest iM_leastDrawn 1 b_iM_taped b_iM_size b_iM_end b_iM_failed b_iM_hasCourt b_iM_undos b_iM_images b_iM_scale b_iM_breaths b_iM_cutMany) (cwV 1 hts (wd_V wd_396 wd_397 wd_398 wd_5 (wd_c wd_399)) rfl rfl rfl dv_yX7_no_1 ⟨Nat.le_of_ble_eq_true rfl, Nat.le_of_ble_eq_true rfl⟩) ⟨Pw.fb, recvX7 hK hP (q0 := 0) rfl, fun U hU hW => Pw.to (hP.ms _ hMs) (hD.ms _ hMs) (hK.ms [false, false, false, false] rfl) hE hS hFc hU hW⟩ rfl rfl hl.1 rfl (lv_room (Nat.le_of_ble_eq_true rfl)) dX7_surely_13 ⟨Nat.le_of_ble_eq_true rfl, Nat.le_of_ble_eq_true rfl⟩) hS (fun q _ h => hFc q h) hFc (fun r u t H locs ht hvm hw hB hz1 hk1 hS => ?_)
      have hru9 := hw.2
      have hw := hw.1
      refine ex_1_1 hB (fun x_2828 e_x_2828_0 hB => ?_)
      obtain ⟨hP, hD⟩ := Bw.goN (ws' := [(oc7 oM x_2825 rM_tape iM_taped iM_size iM_at iM_end iM_token iM_whole iM_nameSize iM_fault iM_place x_2828 rM_letters iM_failed iM_hasCourt rM_r rM_fresh rM_told rM_read rM_st rM_undone rM_kept iM_undos iM_images rM_fresher iM_fresherSize iM_scale iM_night rM_heardRow rM_cutRow iM_breaths iM_cutMany iM_allBreaths rM_trial rM_words iM_fewestBreaths iM_orderMany iM_orderSum iM_leastOrder rM_often iM_setMany iM_someOf iM_allOf iM_allWeight iM_enoughWeight iM_worthSum iM_firstRest iM_leastDrawn), (arI rM_r kM_r 287 fM_r), (arI rM_told kM_told 90 fM_told), (arI rM_trial kM_trial 90 fM_trial), (arI rM_often kM_often 4 fM_often)]) hB rfl ht hP hD _ hMs hk1 hFc rfl
      clear hz1 hk1 hvm ht hB hMs
      rw [← hru9] at e_x_2828_0
      obtain ⟨x_2829, rfl⟩ : ∃ z, z = r := ⟨_, rfl⟩
      have hG := hG.trans (un2_eq e_x_2828_0)
      exact wq_i hx hb hr (cI x_2829) ⟨⟨trivial, trivial⟩, (cI_of x_2829)⟩ (fun t ht hW => ⟨x_2825, x_2828, iM_setMany, iM_someOf, iM_allOf, fM_trial, fM_often, (cI_tup hG), Bw.to hP hD hK ht hW⟩) hS dX7_surely_16 hlocks
  · skip
    refine va_get (D := (dC, dI)) (ci := 7) (v := .int iM_hasCourt) (C := RX7) (T := TX7) (N := 48) hx hb hts inX7 hown hK hP 0 rfl rfl 14 (by decide) (hts _ wd_385) (fun _ h9 => h9) rfl dX7_surely_5 ?_
    refine lv_if_ne (tgt := 17) hx hb dX7_surely_8 (by decide) (fun c_2830 => ?_) (fun c_2830 => ?_)
    · skip
      have hG := hG.trans (if_neg c_2830)
      have gc_2830 := ti_ne c_2830 rfl kc_0
      refine lv_aload_n hx hb dX7_surely_17 rfl (lv_at hl 0 rfl) ?_
      refine lv_iconst (v := (-1)) hx hb dX7_surely_18 (by decide) ?_
      have hFc := va_freeI hD hS hA
      refine va_calli (va_runV (As := [.int (-1)]) (rest := []) ⟨hx, hb, hml, hown, hts⟩ (tX7_seekSets l dC dI _ oM x_2825 rM_tape iM_taped iM_size iM_at iM_end iM_token iM_whole iM_nameSize iM_fault iM_place x_2826 rM_letters iM_failed iM_hasCourt rM_r fM_r kM_r rM_fresh rM_told fM_told kM_told rM_read rM_st rM_undone rM_kept iM_undos iM_images rM_fresher iM_fresherSize iM_scale iM_night rM_heardRow rM_cutRow iM_breaths iM_cutMany iM_allBreaths rM_trial fM_trial kM_trial rM_words iM_fewestBreaths iM_orderMany iM_orderSum iM_leastOrder rM_often fM_often kM_often iM_setMany iM_someOf iM_allOf iM_allWeight iM_enoughWeight iM_worthSum iM_firstRest iM_leastDrawn (-1) b_iM_taped b_iM_size b_iM_end b_iM_failed b_iM_hasCourt b_iM_undos b_iM_images b_iM_scale b_iM_breaths b_iM_cutMany (by assumption) (by assumption) (by assumption) ⟨r_C1.2.1, r_C1.2.2⟩) (cwV 1 hts (wd_V wd_1182 wd_1183 wd_1184 wd_5 (wd_c wd_1185)) rfl rfl rfl dv_yX7_seekSets_1 ⟨Nat.le_of_ble_eq_true rfl, Nat.le_of_ble_eq_true rfl⟩) ⟨Pw.fb, recvX7 hK hP (q0 := 0) rfl, fun U hU hW => Pw.to hP hD hK hE hS hFc hU hW⟩ rfl rfl hl.1 rfl (lv_room (Nat.le_of_ble_eq_true rfl)) dX7_surely_19 ⟨Nat.le_of_ble_eq_true rfl, Nat.le_of_ble_eq_true rfl⟩) hS (fun q _ h => hFc q h) hFc (fun r u t H locs ht hvm hw hB hz1 hk1 hS => ?_)
      have hru9 := hw.2
      have hw := hw.1
      refine ex_5_1 hB (fun x_2831 x_2832 x_2833 f_2834 f_2835 e_x_2831_0 hB => ?_)
      obtain ⟨hP, hD⟩ := Bw.goA (ws' := [(oc7 oM x_2825 rM_tape iM_taped iM_size iM_at iM_end iM_token iM_whole iM_nameSize iM_fault iM_place x_2826 rM_letters iM_failed iM_hasCourt rM_r rM_fresh rM_told rM_read rM_st rM_undone rM_kept iM_undos iM_images rM_fresher iM_fresherSize iM_scale iM_night rM_heardRow rM_cutRow iM_breaths iM_cutMany iM_allBreaths rM_trial rM_words iM_fewestBreaths iM_orderMany iM_orderSum iM_leastOrder rM_often x_2831 x_2832 x_2833 iM_allWeight iM_enoughWeight iM_worthSum iM_firstRest iM_leastDrawn), (arI rM_r kM_r 287 fM_r), (arI rM_told kM_told 90 fM_told), (arI rM_trial kM_trial 90 f_2834), (arI rM_often kM_often 4 f_2835)]) hB rfl ht hFc rfl
      clear hz1 hk1 hvm ht hB
      rw [← hru9] at e_x_2831_0
      obtain ⟨x_2836, rfl⟩ : ∃ z, z = r := ⟨_, rfl⟩
      have hG := hG.trans (un6_eq e_x_2831_0)
      refine lv_pop hx hb dX7_surely_22 rfl ?_
      refine lv_aload_n hx hb dX7_surely_23 rfl (lv_at hl 0 rfl) ?_
      refine va_get (D := (dC, dI)) (ci := 7) (v := .int x_2833) (C := RX7) (T := TX7) (N := 48) hx hb hts inX7 hown hK hP 0 rfl rfl 42 (by decide) (hts _ wd_1187) (fun _ h9 => h9) rfl dX7_surely_24 ?_
      exact wq_i hx hb hr (cI x_2833) ⟨⟨trivial, trivial⟩, (cI_of x_2833)⟩ (fun t ht hW => ⟨x_2825, x_2826, x_2831, x_2832, x_2833, f_2834, f_2835, (cI_tup hG), Bw.to hP hD hK ht hW⟩) hS dX7_surely_27 hlocks
    · skip
      have hG := hG.trans (if_pos c_2830)
      have gc_2830 := ti_eq c_2830 rfl kc_0
      refine lv_aload_n hx hb dX7_surely_11 rfl (lv_at hl 0 rfl) ?_
      refine lv_iconst (v := 1) hx hb dX7_surely_12 (by decide) ?_
      have hMs := ml_of hD [true, false, false, false, false] (wc := [(oc7 oM x_2825 rM_tape iM_taped iM_size iM_at iM_end iM_token iM_whole iM_nameSize iM_fault iM_place x_2826 rM_letters iM_failed iM_hasCourt rM_r rM_fresh rM_told rM_read rM_st rM_undone rM_kept iM_undos iM_images rM_fresher iM_fresherSize iM_scale iM_night rM_heardRow rM_cutRow iM_breaths iM_cutMany iM_allBreaths rM_trial rM_words iM_fewestBreaths iM_orderMany iM_orderSum iM_leastOrder rM_often iM_setMany iM_someOf iM_allOf iM_allWeight iM_enoughWeight iM_worthSum iM_firstRest iM_leastDrawn)]) rfl
      have hFc := va_freeM hD hS hA _ hMs
      refine va_calli (va_runV (As := [.int 1]) (rest := []) ⟨hx, hb, hml, hown, hts⟩ (tX7_no l dC dI _ oM x_2825 rM_tape iM_taped iM_size iM_at iM_end iM_token iM_whole iM_nameSize iM_fault iM_place x_2826 rM_letters iM_failed iM_hasCourt rM_r rM_fresh rM_told rM_read rM_st rM_undone rM_kept iM_undos iM_images rM_fresher iM_fresherSize iM_scale iM_night rM_heardRow rM_cutRow iM_breaths iM_cutMany iM_allBreaths rM_trial rM_words iM_fewestBreaths iM_orderMany iM_orderSum iM_leastOrder rM_often iM_setMany iM_someOf iM_allOf iM_allWeight iM_enoughWeight iM_worthSum iM_firstRest iM_leastDrawn 1 b_iM_taped b_iM_size b_iM_end b_iM_failed b_iM_hasCourt b_iM_undos b_iM_images b_iM_scale b_iM_breaths b_iM_cutMany) (cwV 1 hts (wd_V wd_396 wd_397 wd_398 wd_5 (wd_c wd_399)) rfl rfl rfl dv_yX7_no_1 ⟨Nat.le_of_ble_eq_true rfl, Nat.le_of_ble_eq_true rfl⟩) ⟨Pw.fb, recvX7 hK hP (q0 := 0) rfl, fun U hU hW => Pw.to (hP.ms _ hMs) (hD.ms _ hMs) (hK.ms [false, false, false, false] rfl) hE hS hFc hU hW⟩ rfl rfl hl.1 rfl (lv_room (Nat.le_of_ble_eq_true rfl)) dX7_surely_13 ⟨Nat.le_of_ble_eq_true rfl, Nat.le_of_ble_eq_true rfl⟩) hS (fun q _ h => hFc q h) hFc (fun r u t H locs ht hvm hw hB hz1 hk1 hS => ?_)
      have hru9 := hw.2
      have hw := hw.1
      refine ex_1_1 hB (fun x_2837 e_x_2837_0 hB => ?_)
      obtain ⟨hP, hD⟩ := Bw.goN (ws' := [(oc7 oM x_2825 rM_tape iM_taped iM_size iM_at iM_end iM_token iM_whole iM_nameSize iM_fault iM_place x_2837 rM_letters iM_failed iM_hasCourt rM_r rM_fresh rM_told rM_read rM_st rM_undone rM_kept iM_undos iM_images rM_fresher iM_fresherSize iM_scale iM_night rM_heardRow rM_cutRow iM_breaths iM_cutMany iM_allBreaths rM_trial rM_words iM_fewestBreaths iM_orderMany iM_orderSum iM_leastOrder rM_often iM_setMany iM_someOf iM_allOf iM_allWeight iM_enoughWeight iM_worthSum iM_firstRest iM_leastDrawn), (arI rM_r kM_r 287 fM_r), (arI rM_told kM_told 90 fM_told), (arI rM_trial kM_trial 90 fM_trial), (arI rM_often kM_often 4 fM_often)]) hB rfl ht hP hD _ hMs hk1 hFc rfl
      clear hz1 hk1 hvm ht hB hMs
      rw [← hru9] at e_x_2837_0
      obtain ⟨x_2838, rfl⟩ : ∃ z, z = r := ⟨_, rfl⟩
      have hG := hG.trans (un2_eq e_x_2837_0)
      exact wq_i hx hb hr (cI x_2838) ⟨⟨trivial, trivial⟩, (cI_of x_2838)⟩ (fun t ht hW => ⟨x_2825, x_2837, iM_setMany, iM_someOf, iM_allOf, fM_trial, fM_often, (cI_tup hG), Bw.to hP hD hK ht hW⟩) hS dX7_surely_16 hlocks
set_option maxHeartbeats 4000000 in
set_option maxRecDepth 100000 in
theorem tX7_ask (l : Launch) (dC : Nat → ClassId) (dI : Nat → Nat → Nat) (sz : Nat) (oM : Nat) (iM_thrown : Int32) (rM_tape : Nat) (iM_taped : Int32) (iM_size : Int32) (iM_at : Int32) (iM_end : Int32) (iM_token : Int32) (iM_whole : Int32) (iM_nameSize : Int32) (iM_fault : Int32) (iM_place : Int32) (iM_trouble : Int32) (rM_letters : Nat) (iM_failed : Int32) (iM_hasCourt : Int32) (rM_r : Nat) (fM_r : Nat → Int32) (kM_r : ClassId) (rM_fresh : Nat) (rM_told : Nat) (fM_told : Nat → Int32) (kM_told : ClassId) (rM_read : Nat) (rM_st : Nat) (rM_undone : Nat) (rM_kept : Nat) (iM_undos : Int32) (iM_images : Int32) (rM_fresher : Nat) (iM_fresherSize : Int32) (iM_scale : Int32) (iM_night : Int32) (rM_heardRow : Nat) (rM_cutRow : Nat) (iM_breaths : Int32) (iM_cutMany : Int32) (iM_allBreaths : Int32) (rM_trial : Nat) (fM_trial : Nat → Int32) (kM_trial : ClassId) (rM_words : Nat) (iM_fewestBreaths : Int32) (iM_orderMany : Int32) (iM_orderSum : Int32) (iM_leastOrder : Int32) (rM_often : Nat) (fM_often : Nat → Int32) (kM_often : ClassId) (iM_setMany : Int32) (iM_someOf : Int32) (iM_allOf : Int32) (iM_allWeight : Int64) (iM_enoughWeight : Int64) (iM_worthSum : Int64) (iM_firstRest : Int32) (iM_leastDrawn : Int32) (b_iM_taped : 0 ≤ iM_taped.toInt ∧ iM_taped.toInt ≤ 900) (b_iM_size : 0 ≤ iM_size.toInt ∧ iM_size.toInt ≤ 900) (b_iM_end : 0 ≤ iM_end.toInt ∧ iM_end.toInt ≤ 900) (b_iM_failed : 0 ≤ iM_failed.toInt ∧ iM_failed.toInt ≤ 1) (b_iM_hasCourt : 0 ≤ iM_hasCourt.toInt ∧ iM_hasCourt.toInt ≤ 1) (b_iM_undos : 0 ≤ iM_undos.toInt ∧ iM_undos.toInt ≤ 16) (b_iM_images : 0 ≤ iM_images.toInt ∧ iM_images.toInt ≤ 3) (b_iM_scale : 1 ≤ iM_scale.toInt ∧ iM_scale.toInt ≤ 1296) (b_iM_breaths : 0 ≤ iM_breaths.toInt ∧ iM_breaths.toInt ≤ 399) (b_iM_cutMany : 0 ≤ iM_cutMany.toInt ∧ iM_cutMany.toInt ≤ 399) (r_R : ROk fM_r) (r_C : iM_hasCourt.toInt ≤ 0 ∨ (1 ≤ (fM_r 1).toInt ∧ 0 ≤ (fM_r 6).toInt ∧ (fM_r 6).toInt < (fM_r 1).toInt)) (r_told : RowOk fM_r fM_told)  : Met l yX7_ask (Cond.code yX7_ask cX7_ask 1 (some .int) :: wG) ({ frames := 25, cells := 0, slots := 0, locals := 652 }) (va_Pc [.ref oM] (Pw dC dI sz [(oc7 oM iM_thrown rM_tape iM_taped iM_size iM_at iM_end iM_token iM_whole iM_nameSize iM_fault iM_place iM_trouble rM_letters iM_failed iM_hasCourt rM_r rM_fresh rM_told rM_read rM_st rM_undone rM_kept iM_undos iM_images rM_fresher iM_fresherSize iM_scale iM_night rM_heardRow rM_cutRow iM_breaths iM_cutMany iM_allBreaths rM_trial rM_words iM_fewestBreaths iM_orderMany iM_orderSum iM_leastOrder rM_often iM_setMany iM_someOf iM_allOf iM_allWeight iM_enoughWeight iM_worthSum iM_firstRest iM_leastDrawn), (arI rM_r kM_r 287 fM_r), (arI rM_told kM_told 90 fM_told), (arI rM_trial kM_trial 90 fM_trial), (arI rM_often kM_often 4 fM_often)] [(kM_r, .int), (kM_told, .int), (kM_trial, .int), (kM_often, .int)])) (va_Qi (fun (r : Int32) (_ : Nat) => True ∧ True) (fun (_ : Nat) (t : State) => ∃ (niM_thrown : Int32) (niM_trouble : Int32) (niM_setMany : Int32) (niM_someOf : Int32) (niM_allOf : Int32) (nfM_trial : Nat → Int32) (nfM_often : Nat → Int32), Bw dC dI (va_A [(oc7 oM iM_thrown rM_tape iM_taped iM_size iM_at iM_end iM_token iM_whole iM_nameSize iM_fault iM_place iM_trouble rM_letters iM_failed iM_hasCourt rM_r rM_fresh rM_told rM_read rM_st rM_undone rM_kept iM_undos iM_images rM_fresher iM_fresherSize iM_scale iM_night rM_heardRow rM_cutRow iM_breaths iM_cutMany iM_allBreaths rM_trial rM_words iM_fewestBreaths iM_orderMany iM_orderSum iM_leastOrder rM_often iM_setMany iM_someOf iM_allOf iM_allWeight iM_enoughWeight iM_worthSum iM_firstRest iM_leastDrawn), (arI rM_r kM_r 287 fM_r), (arI rM_told kM_told 90 fM_told), (arI rM_trial kM_trial 90 fM_trial), (arI rM_often kM_often 4 fM_often)] sz) [(oc7 oM niM_thrown rM_tape iM_taped iM_size iM_at iM_end iM_token iM_whole iM_nameSize iM_fault iM_place niM_trouble rM_letters iM_failed iM_hasCourt rM_r rM_fresh rM_told rM_read rM_st rM_undone rM_kept iM_undos iM_images rM_fresher iM_fresherSize iM_scale iM_night rM_heardRow rM_cutRow iM_breaths iM_cutMany iM_allBreaths rM_trial rM_words iM_fewestBreaths iM_orderMany iM_orderSum iM_leastOrder rM_often niM_setMany niM_someOf niM_allOf iM_allWeight iM_enoughWeight iM_worthSum iM_firstRest iM_leastDrawn), (arI rM_r kM_r 287 fM_r), (arI rM_told kM_told 90 fM_told), (arI rM_trial kM_trial 90 nfM_trial), (arI rM_often kM_often 4 nfM_often)] [(kM_r, .int), (kM_told, .int), (kM_trial, .int), (kM_often, .int)] t) (va_A [(oc7 oM iM_thrown rM_tape iM_taped iM_size iM_at iM_end iM_token iM_whole iM_nameSize iM_fault iM_place iM_trouble rM_letters iM_failed iM_hasCourt rM_r rM_fresh rM_told rM_read rM_st rM_undone rM_kept iM_undos iM_images rM_fresher iM_fresherSize iM_scale iM_night rM_heardRow rM_cutRow iM_breaths iM_cutMany iM_allBreaths rM_trial rM_words iM_fewestBreaths iM_orderMany iM_orderSum iM_leastOrder rM_often iM_setMany iM_someOf iM_allOf iM_allWeight iM_enoughWeight iM_worthSum iM_firstRest iM_leastDrawn), (arI rM_r kM_r 287 fM_r), (arI rM_told kM_told 90 fM_told), (arI rM_trial kM_trial 90 fM_trial), (arI rM_often kM_often 4 fM_often)] sz)) 0 0 (va_A [(oc7 oM iM_thrown rM_tape iM_taped iM_size iM_at iM_end iM_token iM_whole iM_nameSize iM_fault iM_place iM_trouble rM_letters iM_failed iM_hasCourt rM_r rM_fresh rM_told rM_read rM_st rM_undone rM_kept iM_undos iM_images rM_fresher iM_fresherSize iM_scale iM_night rM_heardRow rM_cutRow iM_breaths iM_cutMany iM_allBreaths rM_trial rM_words iM_fewestBreaths iM_orderMany iM_orderSum iM_leastOrder rM_often iM_setMany iM_someOf iM_allOf iM_allWeight iM_enoughWeight iM_worthSum iM_firstRest iM_leastDrawn), (arI rM_r kM_r 287 fM_r), (arI rM_told kM_told 90 fM_told), (arI rM_trial kM_trial 90 fM_trial), (arI rM_often kM_often 4 fM_often)] sz) := by
  refine Met.ofW (cc := cX7_ask) (maxL := 1) (ret := (some .int)) pnX7 rfl ?_
  intro p e s m args below meth c s₁ B hml hv
  obtain ⟨rfl, hsz, hP, hK, hD0, hE⟩ := hv
  have hx := B.exec
  have hb := B.bytes
  have hr := B.returns
  have hts : ∀ w ∈ wG, w.before ([.ref oM] : List Value).toArray s = true := fun w h => atoms_spec (ws := Cond.code yX7_ask cX7_ask 1 (some .int) :: wG) B.pre w (List.mem_cons_of_mem _ h)
  have hown : s.vm.findClass RX7 = some m.cls := own_of B.named rfl
  have hlocks := B.notSynchronized
  subst hsz
  have hD := hD0.self (sz := s.heap.size)
  generalize hAe : va_A [(oc7 oM iM_thrown rM_tape iM_taped iM_size iM_at iM_end iM_token iM_whole iM_nameSize iM_fault iM_place iM_trouble rM_letters iM_failed iM_hasCourt rM_r rM_fresh rM_told rM_read rM_st rM_undone rM_kept iM_undos iM_images rM_fresher iM_fresherSize iM_scale iM_night rM_heardRow rM_cutRow iM_breaths iM_cutMany iM_allBreaths rM_trial rM_words iM_fewestBreaths iM_orderMany iM_orderSum iM_leastOrder rM_often iM_setMany iM_someOf iM_allOf iM_allWeight iM_enoughWeight iM_worthSum iM_firstRest iM_leastDrawn), (arI rM_r kM_r 287 fM_r), (arI rM_told kM_told 90 fM_told), (arI rM_trial kM_trial 90 fM_trial), (arI rM_often kM_often 4 fM_often)] s.heap.size = A at hD hE ⊢
  have hA : ∀ q : Nat, s.heap.size ≤ q → A q := fun q h => by rw [← hAe]; exact Or.inr h
  have hS : va_S A s.heap s.heap [] := va_S.rf
  have hl := lv_entry ([.ref oM]) (n := 1) (Nat.le_of_ble_eq_true rfl)
  rw [lg_entry_eq]
  generalize (lg_sl ([.ref oM]) ++ List.replicate (1 - (lg_sl ([.ref oM])).length) Slot.unset).toArray = ls at hl ⊢
  have hl : lv_has ls 1 [(0, .ref oM)] := hl
  have s_slips := r_R.slips
  have s_nodes := r_R.nodes
  have s_uns := r_R.uns
  refine lv_aload_n hx hb dX7_ask_0 rfl (lv_at hl 0 rfl) ?_
  have hMs := ml_of hD [true, false, false, false, false] (wc := [(oc7 oM iM_thrown rM_tape iM_taped iM_size iM_at iM_end iM_token iM_whole iM_nameSize iM_fault iM_place iM_trouble rM_letters iM_failed iM_hasCourt rM_r rM_fresh rM_told rM_read rM_st rM_undone rM_kept iM_undos iM_images rM_fresher iM_fresherSize iM_scale iM_night rM_heardRow rM_cutRow iM_breaths iM_cutMany iM_allBreaths rM_trial rM_words iM_fewestBreaths iM_orderMany iM_orderSum iM_leastOrder rM_often iM_setMany iM_someOf iM_allOf iM_allWeight iM_enoughWeight iM_worthSum iM_firstRest iM_leastDrawn)]) rfl
  have hFc := va_freeM hD hS hA _ hMs
  refine va_callv (va_runV (As := []) (rest := []) ⟨hx, hb, hml, hown, hts⟩ (tX7_good l dC dI _ oM iM_thrown rM_tape iM_taped iM_size iM_at iM_end iM_token iM_whole iM_nameSize iM_fault iM_place iM_trouble rM_letters iM_failed iM_hasCourt rM_r rM_fresh rM_told rM_read rM_st rM_undone rM_kept iM_undos iM_images rM_fresher iM_fresherSize iM_scale iM_night rM_heardRow rM_cutRow iM_breaths iM_cutMany iM_allBreaths rM_trial rM_words iM_fewestBreaths iM_orderMany iM_orderSum iM_leastOrder rM_often iM_setMany iM_someOf iM_allOf iM_allWeight iM_enoughWeight iM_worthSum iM_firstRest iM_leastDrawn b_iM_taped b_iM_size b_iM_end b_iM_failed b_iM_hasCourt b_iM_undos b_iM_images b_iM_scale b_iM_breaths b_iM_cutMany) (cwV 0 hts (wd_V wd_388 wd_389 wd_390 wd_5 (wd_c wd_391)) rfl rfl rfl dv_yX7_good_0 ⟨Nat.le_of_ble_eq_true rfl, Nat.le_of_ble_eq_true rfl⟩) ⟨Pw.fb, recvX7 hK hP (q0 := 0) rfl, fun U hU hW => Pw.to (hP.ms _ hMs) (hD.ms _ hMs) (hK.ms [false, false, false, false] rfl) hE hS hFc hU hW⟩ rfl rfl hl.1 rfl (lv_room (Nat.le_of_ble_eq_true rfl)) dX7_ask_1 ⟨Nat.le_of_ble_eq_true rfl, Nat.le_of_ble_eq_true rfl⟩) hS (fun q _ h => hFc q h) hFc (fun u t H locs ht hvm hw hB hz1 hk1 hS => ?_)
  refine ex_2_3 hB (fun x_2853 x_2854 b_x_2853 b_x_2854 e_x_2853_0 hB => ?_)
  obtain ⟨hP, hD⟩ := Bw.goN (ws' := [(oc7 oM x_2853 rM_tape iM_taped iM_size iM_at iM_end iM_token iM_whole iM_nameSize iM_fault iM_place x_2854 rM_letters iM_failed iM_hasCourt rM_r rM_fresh rM_told rM_read rM_st rM_undone rM_kept iM_undos iM_images rM_fresher iM_fresherSize iM_scale iM_night rM_heardRow rM_cutRow iM_breaths iM_cutMany iM_allBreaths rM_trial rM_words iM_fewestBreaths iM_orderMany iM_orderSum iM_leastOrder rM_often iM_setMany iM_someOf iM_allOf iM_allWeight iM_enoughWeight iM_worthSum iM_firstRest iM_leastDrawn), (arI rM_r kM_r 287 fM_r), (arI rM_told kM_told 90 fM_told), (arI rM_trial kM_trial 90 fM_trial), (arI rM_often kM_often 4 fM_often)]) hB rfl ht hP hD _ hMs hk1 hFc rfl
  clear hz1 hk1 hvm ht hB hMs
  refine lv_aload_n hx hb dX7_ask_4 rfl (lv_at hl 0 rfl) ?_
  rcases (id r_C) with r_C0 | r_C1
  · skip
    refine va_get (D := (dC, dI)) (ci := 7) (v := .int iM_hasCourt) (C := RX7) (T := TX7) (N := 48) hx hb hts inX7 hown hK hP 0 rfl rfl 14 (by decide) (hts _ wd_385) (fun _ h9 => h9) rfl dX7_ask_5 ?_
    refine lv_if_eq (tgt := 18) hx hb dX7_ask_8 (by decide) (fun c_2855 => ?_) (fun c_2855 => ?_)
    · skip
      have gc_2855 := ti_eq c_2855 rfl kc_0
      refine lv_aload_n hx hb dX7_ask_18 rfl (lv_at hl 0 rfl) ?_
      refine lv_iconst (v := 1) hx hb dX7_ask_19 (by decide) ?_
      have hMs := ml_of hD [true, false, false, false, false] (wc := [(oc7 oM x_2853 rM_tape iM_taped iM_size iM_at iM_end iM_token iM_whole iM_nameSize iM_fault iM_place x_2854 rM_letters iM_failed iM_hasCourt rM_r rM_fresh rM_told rM_read rM_st rM_undone rM_kept iM_undos iM_images rM_fresher iM_fresherSize iM_scale iM_night rM_heardRow rM_cutRow iM_breaths iM_cutMany iM_allBreaths rM_trial rM_words iM_fewestBreaths iM_orderMany iM_orderSum iM_leastOrder rM_often iM_setMany iM_someOf iM_allOf iM_allWeight iM_enoughWeight iM_worthSum iM_firstRest iM_leastDrawn)]) rfl
      have hFc := va_freeM hD hS hA _ hMs
      refine va_calli (va_runV (As := [.int 1]) (rest := []) ⟨hx, hb, hml, hown, hts⟩ (tX7_no l dC dI _ oM x_2853 rM_tape iM_taped iM_size iM_at iM_end iM_token iM_whole iM_nameSize iM_fault iM_place x_2854 rM_letters iM_failed iM_hasCourt rM_r rM_fresh rM_told rM_read rM_st rM_undone rM_kept iM_undos iM_images rM_fresher iM_fresherSize iM_scale iM_night rM_heardRow rM_cutRow iM_breaths iM_cutMany iM_allBreaths rM_trial rM_words iM_fewestBreaths iM_orderMany iM_orderSum iM_leastOrder rM_often iM_setMany iM_someOf iM_allOf iM_allWeight iM_enoughWeight iM_worthSum iM_firstRest iM_leastDrawn 1 b_iM_taped b_iM_size b_iM_end b_iM_failed b_iM_hasCourt b_iM_undos b_iM_images b_iM_scale b_iM_breaths b_iM_cutMany) (cwV 1 hts (wd_V wd_396 wd_397 wd_398 wd_5 (wd_c wd_399)) rfl rfl rfl dv_yX7_no_1 ⟨Nat.le_of_ble_eq_true rfl, Nat.le_of_ble_eq_true rfl⟩) ⟨Pw.fb, recvX7 hK hP (q0 := 0) rfl, fun U hU hW => Pw.to (hP.ms _ hMs) (hD.ms _ hMs) (hK.ms [false, false, false, false] rfl) hE hS hFc hU hW⟩ rfl rfl hl.1 rfl (lv_room (Nat.le_of_ble_eq_true rfl)) dX7_ask_20 ⟨Nat.le_of_ble_eq_true rfl, Nat.le_of_ble_eq_true rfl⟩) hS (fun q _ h => hFc q h) hFc (fun r u t H locs ht hvm hw hB hz1 hk1 hS => ?_)
      have hru9 := hw.2
      have hw := hw.1
      refine ex_1_1 hB (fun x_2856 e_x_2856_0 hB => ?_)
      obtain ⟨hP, hD⟩ := Bw.goN (ws' := [(oc7 oM x_2853 rM_tape iM_taped iM_size iM_at iM_end iM_token iM_whole iM_nameSize iM_fault iM_place x_2856 rM_letters iM_failed iM_hasCourt rM_r rM_fresh rM_told rM_read rM_st rM_undone rM_kept iM_undos iM_images rM_fresher iM_fresherSize iM_scale iM_night rM_heardRow rM_cutRow iM_breaths iM_cutMany iM_allBreaths rM_trial rM_words iM_fewestBreaths iM_orderMany iM_orderSum iM_leastOrder rM_often iM_setMany iM_someOf iM_allOf iM_allWeight iM_enoughWeight iM_worthSum iM_firstRest iM_leastDrawn), (arI rM_r kM_r 287 fM_r), (arI rM_told kM_told 90 fM_told), (arI rM_trial kM_trial 90 fM_trial), (arI rM_often kM_often 4 fM_often)]) hB rfl ht hP hD _ hMs hk1 hFc rfl
      clear hz1 hk1 hvm ht hB hMs
      obtain ⟨x_2857, rfl⟩ : ∃ z, z = r := ⟨_, rfl⟩
      exact wq_i hx hb hr 0 ⟨trivial, trivial⟩ (fun t ht hW => ⟨x_2853, x_2856, iM_setMany, iM_someOf, iM_allOf, fM_trial, fM_often, Bw.to hP hD hK ht hW⟩) hS dX7_ask_23 hlocks
    · skip
      have gc_2855 := ti_ne c_2855 rfl kc_0
      exact (om_c9ba8b89 gc_2855 r_C0 b_iM_hasCourt.1).elim
  · skip
    refine va_get (D := (dC, dI)) (ci := 7) (v := .int iM_hasCourt) (C := RX7) (T := TX7) (N := 48) hx hb hts inX7 hown hK hP 0 rfl rfl 14 (by decide) (hts _ wd_385) (fun _ h9 => h9) rfl dX7_ask_5 ?_
    refine lv_if_eq (tgt := 18) hx hb dX7_ask_8 (by decide) (fun c_2858 => ?_) (fun c_2858 => ?_)
    · skip
      have gc_2858 := ti_eq c_2858 rfl kc_0
      refine lv_aload_n hx hb dX7_ask_18 rfl (lv_at hl 0 rfl) ?_
      refine lv_iconst (v := 1) hx hb dX7_ask_19 (by decide) ?_
      have hMs := ml_of hD [true, false, false, false, false] (wc := [(oc7 oM x_2853 rM_tape iM_taped iM_size iM_at iM_end iM_token iM_whole iM_nameSize iM_fault iM_place x_2854 rM_letters iM_failed iM_hasCourt rM_r rM_fresh rM_told rM_read rM_st rM_undone rM_kept iM_undos iM_images rM_fresher iM_fresherSize iM_scale iM_night rM_heardRow rM_cutRow iM_breaths iM_cutMany iM_allBreaths rM_trial rM_words iM_fewestBreaths iM_orderMany iM_orderSum iM_leastOrder rM_often iM_setMany iM_someOf iM_allOf iM_allWeight iM_enoughWeight iM_worthSum iM_firstRest iM_leastDrawn)]) rfl
      have hFc := va_freeM hD hS hA _ hMs
      refine va_calli (va_runV (As := [.int 1]) (rest := []) ⟨hx, hb, hml, hown, hts⟩ (tX7_no l dC dI _ oM x_2853 rM_tape iM_taped iM_size iM_at iM_end iM_token iM_whole iM_nameSize iM_fault iM_place x_2854 rM_letters iM_failed iM_hasCourt rM_r rM_fresh rM_told rM_read rM_st rM_undone rM_kept iM_undos iM_images rM_fresher iM_fresherSize iM_scale iM_night rM_heardRow rM_cutRow iM_breaths iM_cutMany iM_allBreaths rM_trial rM_words iM_fewestBreaths iM_orderMany iM_orderSum iM_leastOrder rM_often iM_setMany iM_someOf iM_allOf iM_allWeight iM_enoughWeight iM_worthSum iM_firstRest iM_leastDrawn 1 b_iM_taped b_iM_size b_iM_end b_iM_failed b_iM_hasCourt b_iM_undos b_iM_images b_iM_scale b_iM_breaths b_iM_cutMany) (cwV 1 hts (wd_V wd_396 wd_397 wd_398 wd_5 (wd_c wd_399)) rfl rfl rfl dv_yX7_no_1 ⟨Nat.le_of_ble_eq_true rfl, Nat.le_of_ble_eq_true rfl⟩) ⟨Pw.fb, recvX7 hK hP (q0 := 0) rfl, fun U hU hW => Pw.to (hP.ms _ hMs) (hD.ms _ hMs) (hK.ms [false, false, false, false] rfl) hE hS hFc hU hW⟩ rfl rfl hl.1 rfl (lv_room (Nat.le_of_ble_eq_true rfl)) dX7_ask_20 ⟨Nat.le_of_ble_eq_true rfl, Nat.le_of_ble_eq_true rfl⟩) hS (fun q _ h => hFc q h) hFc (fun r u t H locs ht hvm hw hB hz1 hk1 hS => ?_)
      have hru9 := hw.2
      have hw := hw.1
      refine ex_1_1 hB (fun x_2859 e_x_2859_0 hB => ?_)
      obtain ⟨hP, hD⟩ := Bw.goN (ws' := [(oc7 oM x_2853 rM_tape iM_taped iM_size iM_at iM_end iM_token iM_whole iM_nameSize iM_fault iM_place x_2859 rM_letters iM_failed iM_hasCourt rM_r rM_fresh rM_told rM_read rM_st rM_undone rM_kept iM_undos iM_images rM_fresher iM_fresherSize iM_scale iM_night rM_heardRow rM_cutRow iM_breaths iM_cutMany iM_allBreaths rM_trial rM_words iM_fewestBreaths iM_orderMany iM_orderSum iM_leastOrder rM_often iM_setMany iM_someOf iM_allOf iM_allWeight iM_enoughWeight iM_worthSum iM_firstRest iM_leastDrawn), (arI rM_r kM_r 287 fM_r), (arI rM_told kM_told 90 fM_told), (arI rM_trial kM_trial 90 fM_trial), (arI rM_often kM_often 4 fM_often)]) hB rfl ht hP hD _ hMs hk1 hFc rfl
      clear hz1 hk1 hvm ht hB hMs
      obtain ⟨x_2860, rfl⟩ : ∃ z, z = r := ⟨_, rfl⟩
      exact wq_i hx hb hr 0 ⟨trivial, trivial⟩ (fun t ht hW => ⟨x_2853, x_2859, iM_setMany, iM_someOf, iM_allOf, fM_trial, fM_often, Bw.to hP hD hK ht hW⟩) hS dX7_ask_23 hlocks
    · skip
      have gc_2858 := ti_ne c_2858 rfl kc_0
      refine lv_aload_n hx hb dX7_ask_11 rfl (lv_at hl 0 rfl) ?_
      have hFc := va_freeI hD hS hA
      refine va_calli (va_runV (As := []) (rest := []) ⟨hx, hb, hml, hown, hts⟩ (tX7_askedFirst l dC dI _ oM x_2853 rM_tape iM_taped iM_size iM_at iM_end iM_token iM_whole iM_nameSize iM_fault iM_place x_2854 rM_letters iM_failed iM_hasCourt rM_r fM_r kM_r rM_fresh rM_told fM_told kM_told rM_read rM_st rM_undone rM_kept iM_undos iM_images rM_fresher iM_fresherSize iM_scale iM_night rM_heardRow rM_cutRow iM_breaths iM_cutMany iM_allBreaths rM_trial fM_trial kM_trial rM_words iM_fewestBreaths iM_orderMany iM_orderSum iM_leastOrder rM_often fM_often kM_often iM_setMany iM_someOf iM_allOf iM_allWeight iM_enoughWeight iM_worthSum iM_firstRest iM_leastDrawn b_iM_taped b_iM_size b_iM_end b_iM_failed b_iM_hasCourt b_iM_undos b_iM_images b_iM_scale b_iM_breaths b_iM_cutMany (by assumption) (by assumption) (by assumption) ⟨r_C1.2.1, r_C1.2.2⟩) (cwV 0 hts (wd_V wd_1238 wd_1239 wd_1240 wd_5 (wd_c wd_1241)) rfl rfl rfl dv_yX7_askedFirst_0 ⟨Nat.le_of_ble_eq_true rfl, Nat.le_of_ble_eq_true rfl⟩) ⟨Pw.fb, recvX7 hK hP (q0 := 0) rfl, fun U hU hW => Pw.to hP hD hK hE hS hFc hU hW⟩ rfl rfl hl.1 rfl (lv_room (Nat.le_of_ble_eq_true rfl)) dX7_ask_12 ⟨Nat.le_of_ble_eq_true rfl, Nat.le_of_ble_eq_true rfl⟩) hS (fun q _ h => hFc q h) hFc (fun r u t H locs ht hvm hw hB hz1 hk1 hS => ?_)
      have hru9 := hw.2
      have hw := hw.1
      refine ex_5_1 hB (fun x_2861 x_2862 x_2863 f_2864 f_2865 e_x_2861_0 hB => ?_)
      obtain ⟨hP, hD⟩ := Bw.goA (ws' := [(oc7 oM x_2853 rM_tape iM_taped iM_size iM_at iM_end iM_token iM_whole iM_nameSize iM_fault iM_place x_2854 rM_letters iM_failed iM_hasCourt rM_r rM_fresh rM_told rM_read rM_st rM_undone rM_kept iM_undos iM_images rM_fresher iM_fresherSize iM_scale iM_night rM_heardRow rM_cutRow iM_breaths iM_cutMany iM_allBreaths rM_trial rM_words iM_fewestBreaths iM_orderMany iM_orderSum iM_leastOrder rM_often x_2861 x_2862 x_2863 iM_allWeight iM_enoughWeight iM_worthSum iM_firstRest iM_leastDrawn), (arI rM_r kM_r 287 fM_r), (arI rM_told kM_told 90 fM_told), (arI rM_trial kM_trial 90 f_2864), (arI rM_often kM_often 4 f_2865)]) hB rfl ht hFc rfl
      clear hz1 hk1 hvm ht hB
      obtain ⟨x_2866, rfl⟩ : ∃ z, z = r := ⟨_, rfl⟩
      have ux_2866 := hw.2
      refine lv_goto (tgt := 23) hx hb dX7_ask_15 (by decide) ?_
      exact wq_i hx hb hr 0 ⟨trivial, trivial⟩ (fun t ht hW => ⟨x_2853, x_2854, x_2861, x_2862, x_2863, f_2864, f_2865, Bw.to hP hD hK ht hW⟩) hS dX7_ask_23 hlocks
set_option maxHeartbeats 4000000 in
set_option maxRecDepth 100000 in
theorem tX7_askLeaves (l : Launch) (dC : Nat → ClassId) (dI : Nat → Nat → Nat) (sz : Nat) (oM : Nat) (iM_thrown : Int32) (rM_tape : Nat) (iM_taped : Int32) (iM_size : Int32) (iM_at : Int32) (iM_end : Int32) (iM_token : Int32) (iM_whole : Int32) (iM_nameSize : Int32) (iM_fault : Int32) (iM_place : Int32) (iM_trouble : Int32) (rM_letters : Nat) (iM_failed : Int32) (iM_hasCourt : Int32) (rM_r : Nat) (fM_r : Nat → Int32) (kM_r : ClassId) (rM_fresh : Nat) (rM_told : Nat) (fM_told : Nat → Int32) (kM_told : ClassId) (rM_read : Nat) (rM_st : Nat) (rM_undone : Nat) (rM_kept : Nat) (iM_undos : Int32) (iM_images : Int32) (rM_fresher : Nat) (iM_fresherSize : Int32) (iM_scale : Int32) (iM_night : Int32) (rM_heardRow : Nat) (rM_cutRow : Nat) (iM_breaths : Int32) (iM_cutMany : Int32) (iM_allBreaths : Int32) (rM_trial : Nat) (fM_trial : Nat → Int32) (kM_trial : ClassId) (rM_words : Nat) (iM_fewestBreaths : Int32) (iM_orderMany : Int32) (iM_orderSum : Int32) (iM_leastOrder : Int32) (rM_often : Nat) (fM_often : Nat → Int32) (kM_often : ClassId) (iM_setMany : Int32) (iM_someOf : Int32) (iM_allOf : Int32) (iM_allWeight : Int64) (iM_enoughWeight : Int64) (iM_worthSum : Int64) (iM_firstRest : Int32) (iM_leastDrawn : Int32) (b_iM_taped : 0 ≤ iM_taped.toInt ∧ iM_taped.toInt ≤ 900) (b_iM_size : 0 ≤ iM_size.toInt ∧ iM_size.toInt ≤ 900) (b_iM_end : 0 ≤ iM_end.toInt ∧ iM_end.toInt ≤ 900) (b_iM_failed : 0 ≤ iM_failed.toInt ∧ iM_failed.toInt ≤ 1) (b_iM_hasCourt : 0 ≤ iM_hasCourt.toInt ∧ iM_hasCourt.toInt ≤ 1) (b_iM_undos : 0 ≤ iM_undos.toInt ∧ iM_undos.toInt ≤ 16) (b_iM_images : 0 ≤ iM_images.toInt ∧ iM_images.toInt ≤ 3) (b_iM_scale : 1 ≤ iM_scale.toInt ∧ iM_scale.toInt ≤ 1296) (b_iM_breaths : 0 ≤ iM_breaths.toInt ∧ iM_breaths.toInt ≤ 399) (b_iM_cutMany : 0 ≤ iM_cutMany.toInt ∧ iM_cutMany.toInt ≤ 399) (r_R : ROk fM_r) (r_C : iM_hasCourt.toInt ≤ 0 ∨ (1 ≤ (fM_r 1).toInt ∧ 0 ≤ (fM_r 6).toInt ∧ (fM_r 6).toInt < (fM_r 1).toInt)) (r_told : RowOk fM_r fM_told)  : Met l yX7_askLeaves (Cond.code yX7_askLeaves cX7_askLeaves 2 (some .int) :: wG) ({ frames := 25, cells := 0, slots := 0, locals := 652 }) (va_Pc [.ref oM] (Pw dC dI sz [(oc7 oM iM_thrown rM_tape iM_taped iM_size iM_at iM_end iM_token iM_whole iM_nameSize iM_fault iM_place iM_trouble rM_letters iM_failed iM_hasCourt rM_r rM_fresh rM_told rM_read rM_st rM_undone rM_kept iM_undos iM_images rM_fresher iM_fresherSize iM_scale iM_night rM_heardRow rM_cutRow iM_breaths iM_cutMany iM_allBreaths rM_trial rM_words iM_fewestBreaths iM_orderMany iM_orderSum iM_leastOrder rM_often iM_setMany iM_someOf iM_allOf iM_allWeight iM_enoughWeight iM_worthSum iM_firstRest iM_leastDrawn), (arI rM_r kM_r 287 fM_r), (arI rM_told kM_told 90 fM_told), (arI rM_trial kM_trial 90 fM_trial), (arI rM_often kM_often 4 fM_often)] [(kM_r, .int), (kM_told, .int), (kM_trial, .int), (kM_often, .int)])) (va_Qi (fun (r : Int32) (u : Nat) => (True ∧ True) ∧ r = Int32.ofNat u) (fun (u : Nat) (t : State) => ∃ (niM_thrown : Int32) (niM_trouble : Int32) (niM_setMany : Int32) (niM_someOf : Int32) (niM_allOf : Int32) (nfM_trial : Nat → Int32) (nfM_often : Nat → Int32), (PX7_askLeaves iM_hasCourt fM_r fM_told iM_scale iM_night fM_trial fM_often iM_setMany iM_someOf iM_allOf = (Int32.ofNat u, niM_thrown, niM_trouble, niM_setMany, niM_someOf, niM_allOf, nfM_trial, nfM_often)) ∧ Bw dC dI (va_A [(oc7 oM iM_thrown rM_tape iM_taped iM_size iM_at iM_end iM_token iM_whole iM_nameSize iM_fault iM_place iM_trouble rM_letters iM_failed iM_hasCourt rM_r rM_fresh rM_told rM_read rM_st rM_undone rM_kept iM_undos iM_images rM_fresher iM_fresherSize iM_scale iM_night rM_heardRow rM_cutRow iM_breaths iM_cutMany iM_allBreaths rM_trial rM_words iM_fewestBreaths iM_orderMany iM_orderSum iM_leastOrder rM_often iM_setMany iM_someOf iM_allOf iM_allWeight iM_enoughWeight iM_worthSum iM_firstRest iM_leastDrawn), (arI rM_r kM_r 287 fM_r), (arI rM_told kM_told 90 fM_told), (arI rM_trial kM_trial 90 fM_trial), (arI rM_often kM_often 4 fM_often)] sz) [(oc7 oM niM_thrown rM_tape iM_taped iM_size iM_at iM_end iM_token iM_whole iM_nameSize iM_fault iM_place niM_trouble rM_letters iM_failed iM_hasCourt rM_r rM_fresh rM_told rM_read rM_st rM_undone rM_kept iM_undos iM_images rM_fresher iM_fresherSize iM_scale iM_night rM_heardRow rM_cutRow iM_breaths iM_cutMany iM_allBreaths rM_trial rM_words iM_fewestBreaths iM_orderMany iM_orderSum iM_leastOrder rM_often niM_setMany niM_someOf niM_allOf iM_allWeight iM_enoughWeight iM_worthSum iM_firstRest iM_leastDrawn), (arI rM_r kM_r 287 fM_r), (arI rM_told kM_told 90 fM_told), (arI rM_trial kM_trial 90 nfM_trial), (arI rM_often kM_often 4 nfM_often)] [(kM_r, .int), (kM_told, .int), (kM_trial, .int), (kM_often, .int)] t) (va_A [(oc7 oM iM_thrown rM_tape iM_taped iM_size iM_at iM_end iM_token iM_whole iM_nameSize iM_fault iM_place iM_trouble rM_letters iM_failed iM_hasCourt rM_r rM_fresh rM_told rM_read rM_st rM_undone rM_kept iM_undos iM_images rM_fresher iM_fresherSize iM_scale iM_night rM_heardRow rM_cutRow iM_breaths iM_cutMany iM_allBreaths rM_trial rM_words iM_fewestBreaths iM_orderMany iM_orderSum iM_leastOrder rM_often iM_setMany iM_someOf iM_allOf iM_allWeight iM_enoughWeight iM_worthSum iM_firstRest iM_leastDrawn), (arI rM_r kM_r 287 fM_r), (arI rM_told kM_told 90 fM_told), (arI rM_trial kM_trial 90 fM_trial), (arI rM_often kM_often 4 fM_often)] sz)) 0 0 (va_A [(oc7 oM iM_thrown rM_tape iM_taped iM_size iM_at iM_end iM_token iM_whole iM_nameSize iM_fault iM_place iM_trouble rM_letters iM_failed iM_hasCourt rM_r rM_fresh rM_told rM_read rM_st rM_undone rM_kept iM_undos iM_images rM_fresher iM_fresherSize iM_scale iM_night rM_heardRow rM_cutRow iM_breaths iM_cutMany iM_allBreaths rM_trial rM_words iM_fewestBreaths iM_orderMany iM_orderSum iM_leastOrder rM_often iM_setMany iM_someOf iM_allOf iM_allWeight iM_enoughWeight iM_worthSum iM_firstRest iM_leastDrawn), (arI rM_r kM_r 287 fM_r), (arI rM_told kM_told 90 fM_told), (arI rM_trial kM_trial 90 fM_trial), (arI rM_often kM_often 4 fM_often)] sz) := by
  refine Met.ofW (cc := cX7_askLeaves) (maxL := 2) (ret := (some .int)) pnX7 rfl ?_
  intro p e s m args below meth c s₁ B hml hv
  obtain ⟨rfl, hsz, hP, hK, hD0, hE⟩ := hv
  have hx := B.exec
  have hb := B.bytes
  have hr := B.returns
  have hts : ∀ w ∈ wG, w.before ([.ref oM] : List Value).toArray s = true := fun w h => atoms_spec (ws := Cond.code yX7_askLeaves cX7_askLeaves 2 (some .int) :: wG) B.pre w (List.mem_cons_of_mem _ h)
  have hown : s.vm.findClass RX7 = some m.cls := own_of B.named rfl
  have hlocks := B.notSynchronized
  subst hsz
  have hD := hD0.self (sz := s.heap.size)
  generalize hAe : va_A [(oc7 oM iM_thrown rM_tape iM_taped iM_size iM_at iM_end iM_token iM_whole iM_nameSize iM_fault iM_place iM_trouble rM_letters iM_failed iM_hasCourt rM_r rM_fresh rM_told rM_read rM_st rM_undone rM_kept iM_undos iM_images rM_fresher iM_fresherSize iM_scale iM_night rM_heardRow rM_cutRow iM_breaths iM_cutMany iM_allBreaths rM_trial rM_words iM_fewestBreaths iM_orderMany iM_orderSum iM_leastOrder rM_often iM_setMany iM_someOf iM_allOf iM_allWeight iM_enoughWeight iM_worthSum iM_firstRest iM_leastDrawn), (arI rM_r kM_r 287 fM_r), (arI rM_told kM_told 90 fM_told), (arI rM_trial kM_trial 90 fM_trial), (arI rM_often kM_often 4 fM_often)] s.heap.size = A at hD hE ⊢
  have hA : ∀ q : Nat, s.heap.size ≤ q → A q := fun q h => by rw [← hAe]; exact Or.inr h
  have hS : va_S A s.heap s.heap [] := va_S.rf
  have hl := lv_entry ([.ref oM]) (n := 2) (Nat.le_of_ble_eq_true rfl)
  rw [lg_entry_eq]
  generalize (lg_sl ([.ref oM]) ++ List.replicate (2 - (lg_sl ([.ref oM])).length) Slot.unset).toArray = ls at hl ⊢
  have hl : lv_has ls 2 [(0, .ref oM)] := hl
  have hG := PX7_askLeaves_eq iM_hasCourt fM_r fM_told iM_scale iM_night fM_trial fM_often iM_setMany iM_someOf iM_allOf
  have s_slips := r_R.slips
  have s_nodes := r_R.nodes
  have s_uns := r_R.uns
  refine lv_aload_n hx hb dX7_askLeaves_0 rfl (lv_at hl 0 rfl) ?_
  have hMs := ml_of hD [true, false, false, false, false] (wc := [(oc7 oM iM_thrown rM_tape iM_taped iM_size iM_at iM_end iM_token iM_whole iM_nameSize iM_fault iM_place iM_trouble rM_letters iM_failed iM_hasCourt rM_r rM_fresh rM_told rM_read rM_st rM_undone rM_kept iM_undos iM_images rM_fresher iM_fresherSize iM_scale iM_night rM_heardRow rM_cutRow iM_breaths iM_cutMany iM_allBreaths rM_trial rM_words iM_fewestBreaths iM_orderMany iM_orderSum iM_leastOrder rM_often iM_setMany iM_someOf iM_allOf iM_allWeight iM_enoughWeight iM_worthSum iM_firstRest iM_leastDrawn)]) rfl
  have hFc := va_freeM hD hS hA _ hMs
  refine va_callv (va_runV (As := []) (rest := []) ⟨hx, hb, hml, hown, hts⟩ (tX7_good l dC dI _ oM iM_thrown rM_tape iM_taped iM_size iM_at iM_end iM_token iM_whole iM_nameSize iM_fault iM_place iM_trouble rM_letters iM_failed iM_hasCourt rM_r rM_fresh rM_told rM_read rM_st rM_undone rM_kept iM_undos iM_images rM_fresher iM_fresherSize iM_scale iM_night rM_heardRow rM_cutRow iM_breaths iM_cutMany iM_allBreaths rM_trial rM_words iM_fewestBreaths iM_orderMany iM_orderSum iM_leastOrder rM_often iM_setMany iM_someOf iM_allOf iM_allWeight iM_enoughWeight iM_worthSum iM_firstRest iM_leastDrawn b_iM_taped b_iM_size b_iM_end b_iM_failed b_iM_hasCourt b_iM_undos b_iM_images b_iM_scale b_iM_breaths b_iM_cutMany) (cwV 0 hts (wd_V wd_388 wd_389 wd_390 wd_5 (wd_c wd_391)) rfl rfl rfl dv_yX7_good_0 ⟨Nat.le_of_ble_eq_true rfl, Nat.le_of_ble_eq_true rfl⟩) ⟨Pw.fb, recvX7 hK hP (q0 := 0) rfl, fun U hU hW => Pw.to (hP.ms _ hMs) (hD.ms _ hMs) (hK.ms [false, false, false, false] rfl) hE hS hFc hU hW⟩ rfl rfl hl.1 rfl (lv_room (Nat.le_of_ble_eq_true rfl)) dX7_askLeaves_1 ⟨Nat.le_of_ble_eq_true rfl, Nat.le_of_ble_eq_true rfl⟩) hS (fun q _ h => hFc q h) hFc (fun u t H locs ht hvm hw hB hz1 hk1 hS => ?_)
  refine ex_2_3 hB (fun x_2883 x_2884 b_x_2883 b_x_2884 e_x_2883_0 hB => ?_)
  obtain ⟨hP, hD⟩ := Bw.goN (ws' := [(oc7 oM x_2883 rM_tape iM_taped iM_size iM_at iM_end iM_token iM_whole iM_nameSize iM_fault iM_place x_2884 rM_letters iM_failed iM_hasCourt rM_r rM_fresh rM_told rM_read rM_st rM_undone rM_kept iM_undos iM_images rM_fresher iM_fresherSize iM_scale iM_night rM_heardRow rM_cutRow iM_breaths iM_cutMany iM_allBreaths rM_trial rM_words iM_fewestBreaths iM_orderMany iM_orderSum iM_leastOrder rM_often iM_setMany iM_someOf iM_allOf iM_allWeight iM_enoughWeight iM_worthSum iM_firstRest iM_leastDrawn), (arI rM_r kM_r 287 fM_r), (arI rM_told kM_told 90 fM_told), (arI rM_trial kM_trial 90 fM_trial), (arI rM_often kM_often 4 fM_often)]) hB rfl ht hP hD _ hMs hk1 hFc rfl
  clear hz1 hk1 hvm ht hB hMs
  have hG := hG.trans (un2_eq e_x_2883_0)
  refine lv_aload_n hx hb dX7_askLeaves_4 rfl (lv_at hl 0 rfl) ?_
  rcases (id r_C) with r_C0 | r_C1
  · skip
    refine va_get (D := (dC, dI)) (ci := 7) (v := .int iM_hasCourt) (C := RX7) (T := TX7) (N := 48) hx hb hts inX7 hown hK hP 0 rfl rfl 14 (by decide) (hts _ wd_385) (fun _ h9 => h9) rfl dX7_askLeaves_5 ?_
    refine lv_if_ne (tgt := 17) hx hb dX7_askLeaves_8 (by decide) (fun c_2885 => ?_) (fun c_2885 => ?_)
    · skip
      have hG := hG.trans (if_neg c_2885)
      have gc_2885 := ti_ne c_2885 rfl kc_0
      exact (om_c9ba8b89 gc_2885 r_C0 b_iM_hasCourt.1).elim
    · skip
      have hG := hG.trans (if_pos c_2885)
      have gc_2885 := ti_eq c_2885 rfl kc_0
      refine lv_aload_n hx hb dX7_askLeaves_11 rfl (lv_at hl 0 rfl) ?_
      refine lv_iconst (v := 1) hx hb dX7_askLeaves_12 (by decide) ?_
      have hMs := ml_of hD [true, false, false, false, false] (wc := [(oc7 oM x_2883 rM_tape iM_taped iM_size iM_at iM_end iM_token iM_whole iM_nameSize iM_fault iM_place x_2884 rM_letters iM_failed iM_hasCourt rM_r rM_fresh rM_told rM_read rM_st rM_undone rM_kept iM_undos iM_images rM_fresher iM_fresherSize iM_scale iM_night rM_heardRow rM_cutRow iM_breaths iM_cutMany iM_allBreaths rM_trial rM_words iM_fewestBreaths iM_orderMany iM_orderSum iM_leastOrder rM_often iM_setMany iM_someOf iM_allOf iM_allWeight iM_enoughWeight iM_worthSum iM_firstRest iM_leastDrawn)]) rfl
      have hFc := va_freeM hD hS hA _ hMs
      refine va_calli (va_runV (As := [.int 1]) (rest := []) ⟨hx, hb, hml, hown, hts⟩ (tX7_no l dC dI _ oM x_2883 rM_tape iM_taped iM_size iM_at iM_end iM_token iM_whole iM_nameSize iM_fault iM_place x_2884 rM_letters iM_failed iM_hasCourt rM_r rM_fresh rM_told rM_read rM_st rM_undone rM_kept iM_undos iM_images rM_fresher iM_fresherSize iM_scale iM_night rM_heardRow rM_cutRow iM_breaths iM_cutMany iM_allBreaths rM_trial rM_words iM_fewestBreaths iM_orderMany iM_orderSum iM_leastOrder rM_often iM_setMany iM_someOf iM_allOf iM_allWeight iM_enoughWeight iM_worthSum iM_firstRest iM_leastDrawn 1 b_iM_taped b_iM_size b_iM_end b_iM_failed b_iM_hasCourt b_iM_undos b_iM_images b_iM_scale b_iM_breaths b_iM_cutMany) (cwV 1 hts (wd_V wd_396 wd_397 wd_398 wd_5 (wd_c wd_399)) rfl rfl rfl dv_yX7_no_1 ⟨Nat.le_of_ble_eq_true rfl, Nat.le_of_ble_eq_true rfl⟩) ⟨Pw.fb, recvX7 hK hP (q0 := 0) rfl, fun U hU hW => Pw.to (hP.ms _ hMs) (hD.ms _ hMs) (hK.ms [false, false, false, false] rfl) hE hS hFc hU hW⟩ rfl rfl hl.1 rfl (lv_room (Nat.le_of_ble_eq_true rfl)) dX7_askLeaves_13 ⟨Nat.le_of_ble_eq_true rfl, Nat.le_of_ble_eq_true rfl⟩) hS (fun q _ h => hFc q h) hFc (fun r u t H locs ht hvm hw hB hz1 hk1 hS => ?_)
      have hru9 := hw.2
      have hw := hw.1
      refine ex_1_1 hB (fun x_2886 e_x_2886_0 hB => ?_)
      obtain ⟨hP, hD⟩ := Bw.goN (ws' := [(oc7 oM x_2883 rM_tape iM_taped iM_size iM_at iM_end iM_token iM_whole iM_nameSize iM_fault iM_place x_2886 rM_letters iM_failed iM_hasCourt rM_r rM_fresh rM_told rM_read rM_st rM_undone rM_kept iM_undos iM_images rM_fresher iM_fresherSize iM_scale iM_night rM_heardRow rM_cutRow iM_breaths iM_cutMany iM_allBreaths rM_trial rM_words iM_fewestBreaths iM_orderMany iM_orderSum iM_leastOrder rM_often iM_setMany iM_someOf iM_allOf iM_allWeight iM_enoughWeight iM_worthSum iM_firstRest iM_leastDrawn), (arI rM_r kM_r 287 fM_r), (arI rM_told kM_told 90 fM_told), (arI rM_trial kM_trial 90 fM_trial), (arI rM_often kM_often 4 fM_often)]) hB rfl ht hP hD _ hMs hk1 hFc rfl
      clear hz1 hk1 hvm ht hB hMs
      rw [← hru9] at e_x_2886_0
      obtain ⟨x_2887, rfl⟩ : ∃ z, z = r := ⟨_, rfl⟩
      have hG := hG.trans (un2_eq e_x_2886_0)
      exact wq_i hx hb hr (cI x_2887) ⟨⟨trivial, trivial⟩, (cI_of x_2887)⟩ (fun t ht hW => ⟨x_2883, x_2886, iM_setMany, iM_someOf, iM_allOf, fM_trial, fM_often, (cI_tup hG), Bw.to hP hD hK ht hW⟩) hS dX7_askLeaves_16 hlocks
  · skip
    refine va_get (D := (dC, dI)) (ci := 7) (v := .int iM_hasCourt) (C := RX7) (T := TX7) (N := 48) hx hb hts inX7 hown hK hP 0 rfl rfl 14 (by decide) (hts _ wd_385) (fun _ h9 => h9) rfl dX7_askLeaves_5 ?_
    refine lv_if_ne (tgt := 17) hx hb dX7_askLeaves_8 (by decide) (fun c_2888 => ?_) (fun c_2888 => ?_)
    · skip
      have hG := hG.trans (if_neg c_2888)
      have gc_2888 := ti_ne c_2888 rfl kc_0
      refine lv_aload_n hx hb dX7_askLeaves_17 rfl (lv_at hl 0 rfl) ?_
      have hFc := va_freeI hD hS hA
      refine va_calli (va_runV (As := []) (rest := []) ⟨hx, hb, hml, hown, hts⟩ (tX7_askedFirst l dC dI _ oM x_2883 rM_tape iM_taped iM_size iM_at iM_end iM_token iM_whole iM_nameSize iM_fault iM_place x_2884 rM_letters iM_failed iM_hasCourt rM_r fM_r kM_r rM_fresh rM_told fM_told kM_told rM_read rM_st rM_undone rM_kept iM_undos iM_images rM_fresher iM_fresherSize iM_scale iM_night rM_heardRow rM_cutRow iM_breaths iM_cutMany iM_allBreaths rM_trial fM_trial kM_trial rM_words iM_fewestBreaths iM_orderMany iM_orderSum iM_leastOrder rM_often fM_often kM_often iM_setMany iM_someOf iM_allOf iM_allWeight iM_enoughWeight iM_worthSum iM_firstRest iM_leastDrawn b_iM_taped b_iM_size b_iM_end b_iM_failed b_iM_hasCourt b_iM_undos b_iM_images b_iM_scale b_iM_breaths b_iM_cutMany (by assumption) (by assumption) (by assumption) ⟨r_C1.2.1, r_C1.2.2⟩) (cwV 0 hts (wd_V wd_1238 wd_1239 wd_1240 wd_5 (wd_c wd_1241)) rfl rfl rfl dv_yX7_askedFirst_0 ⟨Nat.le_of_ble_eq_true rfl, Nat.le_of_ble_eq_true rfl⟩) ⟨Pw.fb, recvX7 hK hP (q0 := 0) rfl, fun U hU hW => Pw.to hP hD hK hE hS hFc hU hW⟩ rfl rfl hl.1 rfl (lv_room (Nat.le_of_ble_eq_true rfl)) dX7_askLeaves_18 ⟨Nat.le_of_ble_eq_true rfl, Nat.le_of_ble_eq_true rfl⟩) hS (fun q _ h => hFc q h) hFc (fun r u t H locs ht hvm hw hB hz1 hk1 hS => ?_)
      have hru9 := hw.2
      have hw := hw.1
      refine ex_5_1 hB (fun x_2889 x_2890 x_2891 f_2892 f_2893 e_x_2889_0 hB => ?_)
      obtain ⟨hP, hD⟩ := Bw.goA (ws' := [(oc7 oM x_2883 rM_tape iM_taped iM_size iM_at iM_end iM_token iM_whole iM_nameSize iM_fault iM_place x_2884 rM_letters iM_failed iM_hasCourt rM_r rM_fresh rM_told rM_read rM_st rM_undone rM_kept iM_undos iM_images rM_fresher iM_fresherSize iM_scale iM_night rM_heardRow rM_cutRow iM_breaths iM_cutMany iM_allBreaths rM_trial rM_words iM_fewestBreaths iM_orderMany iM_orderSum iM_leastOrder rM_often x_2889 x_2890 x_2891 iM_allWeight iM_enoughWeight iM_worthSum iM_firstRest iM_leastDrawn), (arI rM_r kM_r 287 fM_r), (arI rM_told kM_told 90 fM_told), (arI rM_trial kM_trial 90 f_2892), (arI rM_often kM_often 4 f_2893)]) hB rfl ht hFc rfl
      clear hz1 hk1 hvm ht hB
      rw [← hru9] at e_x_2889_0
      obtain ⟨x_2894, rfl⟩ : ∃ z, z = r := ⟨_, rfl⟩
      have hG := hG.trans (un6_eq e_x_2889_0)
      have ux_2894 := hw.2
      refine lv_istore_n (lv' := [(1, .int x_2894), (0, .ref oM)]) hx hb dX7_askLeaves_21 rfl hl (by decide) rfl (fun ls hl => ?_)
      refine lv_iload_n hx hb dX7_askLeaves_22 rfl (lv_at hl 0 rfl) ?_
      refine lv_if_ge (tgt := 31) hx hb dX7_askLeaves_23 (by decide) (fun c_2895 => ?_) (fun c_2895 => ?_)
      · skip
        have hG := hG.trans (if_pos c_2895)
        have gc_2895 := ti_le c_2895 kc_0 rfl
        refine lv_aload_n hx hb dX7_askLeaves_31 rfl (lv_at hl 1 rfl) ?_
        refine lv_iload_n hx hb dX7_askLeaves_32 rfl (lv_at hl 0 rfl) ?_
        have hMs := ml_of hD [true, false, false, false, true] (wc := [(oc7 oM x_2883 rM_tape iM_taped iM_size iM_at iM_end iM_token iM_whole iM_nameSize iM_fault iM_place x_2884 rM_letters iM_failed iM_hasCourt rM_r rM_fresh rM_told rM_read rM_st rM_undone rM_kept iM_undos iM_images rM_fresher iM_fresherSize iM_scale iM_night rM_heardRow rM_cutRow iM_breaths iM_cutMany iM_allBreaths rM_trial rM_words iM_fewestBreaths iM_orderMany iM_orderSum iM_leastOrder rM_often x_2889 x_2890 x_2891 iM_allWeight iM_enoughWeight iM_worthSum iM_firstRest iM_leastDrawn), (arI rM_often kM_often 4 f_2893)]) rfl
        have hFc := va_freeM hD hS hA _ hMs
        refine va_calli (va_runV (As := [.int x_2894]) (rest := []) ⟨hx, hb, hml, hown, hts⟩ (tX7_leavesOf l dC dI _ oM x_2883 rM_tape iM_taped iM_size iM_at iM_end iM_token iM_whole iM_nameSize iM_fault iM_place x_2884 rM_letters iM_failed iM_hasCourt rM_r rM_fresh rM_told rM_read rM_st rM_undone rM_kept iM_undos iM_images rM_fresher iM_fresherSize iM_scale iM_night rM_heardRow rM_cutRow iM_breaths iM_cutMany iM_allBreaths rM_trial rM_words iM_fewestBreaths iM_orderMany iM_orderSum iM_leastOrder rM_often f_2893 kM_often x_2889 x_2890 x_2891 iM_allWeight iM_enoughWeight iM_worthSum iM_firstRest iM_leastDrawn x_2894 b_iM_taped b_iM_size b_iM_end b_iM_failed b_iM_hasCourt b_iM_undos b_iM_images b_iM_scale b_iM_breaths b_iM_cutMany ⟨gc_2895, ux_2894.2⟩) (cwV 1 hts (wd_V wd_1242 wd_1243 wd_1244 wd_5 (wd_c wd_1245)) rfl rfl rfl dv_yX7_leavesOf_1 ⟨Nat.le_of_ble_eq_true rfl, Nat.le_of_ble_eq_true rfl⟩) ⟨Pw.fb, recvX7 hK hP (q0 := 0) rfl, fun U hU hW => Pw.to (hP.ms _ hMs) (hD.ms _ hMs) (hK.ms [false, false, false, true] rfl) hE hS hFc hU hW⟩ rfl rfl hl.1 rfl (lv_room (Nat.le_of_ble_eq_true rfl)) dX7_askLeaves_33 ⟨Nat.le_of_ble_eq_true rfl, Nat.le_of_ble_eq_true rfl⟩) hS (fun q _ h => hFc q h) hFc (fun r u t H locs ht hvm hw hB hz1 hk1 hS => ?_)
        have hru9 := hw.2
        have hw := hw.1
        obtain ⟨hP, hD⟩ := Bw.goN (ws' := [(oc7 oM x_2883 rM_tape iM_taped iM_size iM_at iM_end iM_token iM_whole iM_nameSize iM_fault iM_place x_2884 rM_letters iM_failed iM_hasCourt rM_r rM_fresh rM_told rM_read rM_st rM_undone rM_kept iM_undos iM_images rM_fresher iM_fresherSize iM_scale iM_night rM_heardRow rM_cutRow iM_breaths iM_cutMany iM_allBreaths rM_trial rM_words iM_fewestBreaths iM_orderMany iM_orderSum iM_leastOrder rM_often x_2889 x_2890 x_2891 iM_allWeight iM_enoughWeight iM_worthSum iM_firstRest iM_leastDrawn), (arI rM_r kM_r 287 fM_r), (arI rM_told kM_told 90 fM_told), (arI rM_trial kM_trial 90 f_2892), (arI rM_often kM_often 4 f_2893)]) hB rfl ht hP hD _ hMs hk1 hFc rfl
        clear hz1 hk1 hvm ht hB hMs
        obtain ⟨x_2896, rfl⟩ : ∃ z, z = r := ⟨_, rfl⟩
        have hG := hG.trans (lt_eq hru9.symm)
        exact wq_i hx hb hr (cI x_2896) ⟨⟨trivial, trivial⟩, (cI_of x_2896)⟩ (fun t ht hW => ⟨x_2883, x_2884, x_2889, x_2890, x_2891, f_2892, f_2893, (cI_tup hG), Bw.to hP hD hK ht hW⟩) hS dX7_askLeaves_36 hlocks
      · skip
        have hG := hG.trans (if_neg c_2895)
        have gc_2895 := ti_nle c_2895 kc_0 rfl
        refine lv_bipush (v := (-2)) hx hb dX7_askLeaves_26 (by decide) ?_
        refine lv_goto (tgt := 36) hx hb dX7_askLeaves_28 (by decide) ?_
        exact wq_i hx hb hr (cI (-2)) ⟨⟨trivial, trivial⟩, (cI_of (-2))⟩ (fun t ht hW => ⟨x_2883, x_2884, x_2889, x_2890, x_2891, f_2892, f_2893, (cI_tup hG), Bw.to hP hD hK ht hW⟩) hS dX7_askLeaves_36 hlocks
    · skip
      have hG := hG.trans (if_pos c_2888)
      have gc_2888 := ti_eq c_2888 rfl kc_0
      refine lv_aload_n hx hb dX7_askLeaves_11 rfl (lv_at hl 0 rfl) ?_
      refine lv_iconst (v := 1) hx hb dX7_askLeaves_12 (by decide) ?_
      have hMs := ml_of hD [true, false, false, false, false] (wc := [(oc7 oM x_2883 rM_tape iM_taped iM_size iM_at iM_end iM_token iM_whole iM_nameSize iM_fault iM_place x_2884 rM_letters iM_failed iM_hasCourt rM_r rM_fresh rM_told rM_read rM_st rM_undone rM_kept iM_undos iM_images rM_fresher iM_fresherSize iM_scale iM_night rM_heardRow rM_cutRow iM_breaths iM_cutMany iM_allBreaths rM_trial rM_words iM_fewestBreaths iM_orderMany iM_orderSum iM_leastOrder rM_often iM_setMany iM_someOf iM_allOf iM_allWeight iM_enoughWeight iM_worthSum iM_firstRest iM_leastDrawn)]) rfl
      have hFc := va_freeM hD hS hA _ hMs
      refine va_calli (va_runV (As := [.int 1]) (rest := []) ⟨hx, hb, hml, hown, hts⟩ (tX7_no l dC dI _ oM x_2883 rM_tape iM_taped iM_size iM_at iM_end iM_token iM_whole iM_nameSize iM_fault iM_place x_2884 rM_letters iM_failed iM_hasCourt rM_r rM_fresh rM_told rM_read rM_st rM_undone rM_kept iM_undos iM_images rM_fresher iM_fresherSize iM_scale iM_night rM_heardRow rM_cutRow iM_breaths iM_cutMany iM_allBreaths rM_trial rM_words iM_fewestBreaths iM_orderMany iM_orderSum iM_leastOrder rM_often iM_setMany iM_someOf iM_allOf iM_allWeight iM_enoughWeight iM_worthSum iM_firstRest iM_leastDrawn 1 b_iM_taped b_iM_size b_iM_end b_iM_failed b_iM_hasCourt b_iM_undos b_iM_images b_iM_scale b_iM_breaths b_iM_cutMany) (cwV 1 hts (wd_V wd_396 wd_397 wd_398 wd_5 (wd_c wd_399)) rfl rfl rfl dv_yX7_no_1 ⟨Nat.le_of_ble_eq_true rfl, Nat.le_of_ble_eq_true rfl⟩) ⟨Pw.fb, recvX7 hK hP (q0 := 0) rfl, fun U hU hW => Pw.to (hP.ms _ hMs) (hD.ms _ hMs) (hK.ms [false, false, false, false] rfl) hE hS hFc hU hW⟩ rfl rfl hl.1 rfl (lv_room (Nat.le_of_ble_eq_true rfl)) dX7_askLeaves_13 ⟨Nat.le_of_ble_eq_true rfl, Nat.le_of_ble_eq_true rfl⟩) hS (fun q _ h => hFc q h) hFc (fun r u t H locs ht hvm hw hB hz1 hk1 hS => ?_)
      have hru9 := hw.2
      have hw := hw.1
      refine ex_1_1 hB (fun x_2897 e_x_2897_0 hB => ?_)
      obtain ⟨hP, hD⟩ := Bw.goN (ws' := [(oc7 oM x_2883 rM_tape iM_taped iM_size iM_at iM_end iM_token iM_whole iM_nameSize iM_fault iM_place x_2897 rM_letters iM_failed iM_hasCourt rM_r rM_fresh rM_told rM_read rM_st rM_undone rM_kept iM_undos iM_images rM_fresher iM_fresherSize iM_scale iM_night rM_heardRow rM_cutRow iM_breaths iM_cutMany iM_allBreaths rM_trial rM_words iM_fewestBreaths iM_orderMany iM_orderSum iM_leastOrder rM_often iM_setMany iM_someOf iM_allOf iM_allWeight iM_enoughWeight iM_worthSum iM_firstRest iM_leastDrawn), (arI rM_r kM_r 287 fM_r), (arI rM_told kM_told 90 fM_told), (arI rM_trial kM_trial 90 fM_trial), (arI rM_often kM_often 4 fM_often)]) hB rfl ht hP hD _ hMs hk1 hFc rfl
      clear hz1 hk1 hvm ht hB hMs
      rw [← hru9] at e_x_2897_0
      obtain ⟨x_2898, rfl⟩ : ∃ z, z = r := ⟨_, rfl⟩
      have hG := hG.trans (un2_eq e_x_2897_0)
      exact wq_i hx hb hr (cI x_2898) ⟨⟨trivial, trivial⟩, (cI_of x_2898)⟩ (fun t ht hW => ⟨x_2883, x_2897, iM_setMany, iM_someOf, iM_allOf, fM_trial, fM_often, (cI_tup hG), Bw.to hP hD hK ht hW⟩) hS dX7_askLeaves_16 hlocks
set_option maxHeartbeats 4000000 in
set_option maxRecDepth 100000 in
theorem tX7_fitAt (l : Launch) (dC : Nat → ClassId) (dI : Nat → Nat → Nat) (sz : Nat) (oM : Nat) (iM_thrown : Int32) (rM_tape : Nat) (iM_taped : Int32) (iM_size : Int32) (iM_at : Int32) (iM_end : Int32) (iM_token : Int32) (iM_whole : Int32) (iM_nameSize : Int32) (iM_fault : Int32) (iM_place : Int32) (iM_trouble : Int32) (rM_letters : Nat) (iM_failed : Int32) (iM_hasCourt : Int32) (rM_r : Nat) (fM_r : Nat → Int32) (kM_r : ClassId) (rM_fresh : Nat) (rM_told : Nat) (fM_told : Nat → Int32) (kM_told : ClassId) (rM_read : Nat) (rM_st : Nat) (rM_undone : Nat) (rM_kept : Nat) (iM_undos : Int32) (iM_images : Int32) (rM_fresher : Nat) (iM_fresherSize : Int32) (iM_scale : Int32) (iM_night : Int32) (rM_heardRow : Nat) (rM_cutRow : Nat) (iM_breaths : Int32) (iM_cutMany : Int32) (iM_allBreaths : Int32) (rM_trial : Nat) (fM_trial : Nat → Int32) (kM_trial : ClassId) (rM_words : Nat) (iM_fewestBreaths : Int32) (iM_orderMany : Int32) (iM_orderSum : Int32) (iM_leastOrder : Int32) (rM_often : Nat) (fM_often : Nat → Int32) (kM_often : ClassId) (iM_setMany : Int32) (iM_someOf : Int32) (iM_allOf : Int32) (iM_allWeight : Int64) (iM_enoughWeight : Int64) (iM_worthSum : Int64) (iM_firstRest : Int32) (iM_leastDrawn : Int32) (p0 : Int32) (b_iM_taped : 0 ≤ iM_taped.toInt ∧ iM_taped.toInt ≤ 900) (b_iM_size : 0 ≤ iM_size.toInt ∧ iM_size.toInt ≤ 900) (b_iM_end : 0 ≤ iM_end.toInt ∧ iM_end.toInt ≤ 900) (b_iM_failed : 0 ≤ iM_failed.toInt ∧ iM_failed.toInt ≤ 1) (b_iM_hasCourt : 0 ≤ iM_hasCourt.toInt ∧ iM_hasCourt.toInt ≤ 1) (b_iM_undos : 0 ≤ iM_undos.toInt ∧ iM_undos.toInt ≤ 16) (b_iM_images : 0 ≤ iM_images.toInt ∧ iM_images.toInt ≤ 3) (b_iM_scale : 1 ≤ iM_scale.toInt ∧ iM_scale.toInt ≤ 1296) (b_iM_breaths : 0 ≤ iM_breaths.toInt ∧ iM_breaths.toInt ≤ 399) (b_iM_cutMany : 0 ≤ iM_cutMany.toInt ∧ iM_cutMany.toInt ≤ 399) (r_R : ROk fM_r) (r_C : iM_hasCourt.toInt ≤ 0 ∨ (1 ≤ (fM_r 1).toInt ∧ 0 ≤ (fM_r 6).toInt ∧ (fM_r 6).toInt < (fM_r 1).toInt)) (r_told : RowOk fM_r fM_told)  : Met l yX7_fitAt (Cond.code yX7_fitAt cX7_fitAt 3 (some .int) :: wG) ({ frames := 24, cells := 0, slots := 0, locals := 630 }) (va_Pc [.ref oM, .int p0] (Pw dC dI sz [(oc7 oM iM_thrown rM_tape iM_taped iM_size iM_at iM_end iM_token iM_whole iM_nameSize iM_fault iM_place iM_trouble rM_letters iM_failed iM_hasCourt rM_r rM_fresh rM_told rM_read rM_st rM_undone rM_kept iM_undos iM_images rM_fresher iM_fresherSize iM_scale iM_night rM_heardRow rM_cutRow iM_breaths iM_cutMany iM_allBreaths rM_trial rM_words iM_fewestBreaths iM_orderMany iM_orderSum iM_leastOrder rM_often iM_setMany iM_someOf iM_allOf iM_allWeight iM_enoughWeight iM_worthSum iM_firstRest iM_leastDrawn), (arI rM_r kM_r 287 fM_r), (arI rM_told kM_told 90 fM_told), (arI rM_trial kM_trial 90 fM_trial), (arI rM_often kM_often 4 fM_often)] [(kM_r, .int), (kM_told, .int), (kM_trial, .int), (kM_often, .int)])) (va_Qi (fun (r : Int32) (u : Nat) => (True ∧ True) ∧ r = Int32.ofNat u) (fun (u : Nat) (t : State) => ∃ (niM_thrown : Int32) (niM_trouble : Int32) (niM_setMany : Int32) (niM_someOf : Int32) (niM_allOf : Int32) (nfM_trial : Nat → Int32) (nfM_often : Nat → Int32), (PX7_fitAt iM_hasCourt fM_r fM_told iM_scale iM_night fM_trial fM_often iM_setMany iM_someOf iM_allOf p0 = (Int32.ofNat u, niM_thrown, niM_trouble, niM_setMany, niM_someOf, niM_allOf, nfM_trial, nfM_often)) ∧ Bw dC dI (va_A [(oc7 oM iM_thrown rM_tape iM_taped iM_size iM_at iM_end iM_token iM_whole iM_nameSize iM_fault iM_place iM_trouble rM_letters iM_failed iM_hasCourt rM_r rM_fresh rM_told rM_read rM_st rM_undone rM_kept iM_undos iM_images rM_fresher iM_fresherSize iM_scale iM_night rM_heardRow rM_cutRow iM_breaths iM_cutMany iM_allBreaths rM_trial rM_words iM_fewestBreaths iM_orderMany iM_orderSum iM_leastOrder rM_often iM_setMany iM_someOf iM_allOf iM_allWeight iM_enoughWeight iM_worthSum iM_firstRest iM_leastDrawn), (arI rM_r kM_r 287 fM_r), (arI rM_told kM_told 90 fM_told), (arI rM_trial kM_trial 90 fM_trial), (arI rM_often kM_often 4 fM_often)] sz) [(oc7 oM niM_thrown rM_tape iM_taped iM_size iM_at iM_end iM_token iM_whole iM_nameSize iM_fault iM_place niM_trouble rM_letters iM_failed iM_hasCourt rM_r rM_fresh rM_told rM_read rM_st rM_undone rM_kept iM_undos iM_images rM_fresher iM_fresherSize iM_scale iM_night rM_heardRow rM_cutRow iM_breaths iM_cutMany iM_allBreaths rM_trial rM_words iM_fewestBreaths iM_orderMany iM_orderSum iM_leastOrder rM_often niM_setMany niM_someOf niM_allOf iM_allWeight iM_enoughWeight iM_worthSum iM_firstRest iM_leastDrawn), (arI rM_r kM_r 287 fM_r), (arI rM_told kM_told 90 fM_told), (arI rM_trial kM_trial 90 nfM_trial), (arI rM_often kM_often 4 nfM_often)] [(kM_r, .int), (kM_told, .int), (kM_trial, .int), (kM_often, .int)] t) (va_A [(oc7 oM iM_thrown rM_tape iM_taped iM_size iM_at iM_end iM_token iM_whole iM_nameSize iM_fault iM_place iM_trouble rM_letters iM_failed iM_hasCourt rM_r rM_fresh rM_told rM_read rM_st rM_undone rM_kept iM_undos iM_images rM_fresher iM_fresherSize iM_scale iM_night rM_heardRow rM_cutRow iM_breaths iM_cutMany iM_allBreaths rM_trial rM_words iM_fewestBreaths iM_orderMany iM_orderSum iM_leastOrder rM_often iM_setMany iM_someOf iM_allOf iM_allWeight iM_enoughWeight iM_worthSum iM_firstRest iM_leastDrawn), (arI rM_r kM_r 287 fM_r), (arI rM_told kM_told 90 fM_told), (arI rM_trial kM_trial 90 fM_trial), (arI rM_often kM_often 4 fM_often)] sz)) 0 0 (va_A [(oc7 oM iM_thrown rM_tape iM_taped iM_size iM_at iM_end iM_token iM_whole iM_nameSize iM_fault iM_place iM_trouble rM_letters iM_failed iM_hasCourt rM_r rM_fresh rM_told rM_read rM_st rM_undone rM_kept iM_undos iM_images rM_fresher iM_fresherSize iM_scale iM_night rM_heardRow rM_cutRow iM_breaths iM_cutMany iM_allBreaths rM_trial rM_words iM_fewestBreaths iM_orderMany iM_orderSum iM_leastOrder rM_often iM_setMany iM_someOf iM_allOf iM_allWeight iM_enoughWeight iM_worthSum iM_firstRest iM_leastDrawn), (arI rM_r kM_r 287 fM_r), (arI rM_told kM_told 90 fM_told), (arI rM_trial kM_trial 90 fM_trial), (arI rM_often kM_often 4 fM_often)] sz) := by
  refine Met.ofW (cc := cX7_fitAt) (maxL := 3) (ret := (some .int)) pnX7 rfl ?_
  intro p e s m args below meth c s₁ B hml hv
  obtain ⟨rfl, hsz, hP, hK, hD0, hE⟩ := hv
  have hx := B.exec
  have hb := B.bytes
  have hr := B.returns
  have hts : ∀ w ∈ wG, w.before ([.ref oM, .int p0] : List Value).toArray s = true := fun w h => atoms_spec (ws := Cond.code yX7_fitAt cX7_fitAt 3 (some .int) :: wG) B.pre w (List.mem_cons_of_mem _ h)
  have hown : s.vm.findClass RX7 = some m.cls := own_of B.named rfl
  have hlocks := B.notSynchronized
  subst hsz
  have hD := hD0.self (sz := s.heap.size)
  generalize hAe : va_A [(oc7 oM iM_thrown rM_tape iM_taped iM_size iM_at iM_end iM_token iM_whole iM_nameSize iM_fault iM_place iM_trouble rM_letters iM_failed iM_hasCourt rM_r rM_fresh rM_told rM_read rM_st rM_undone rM_kept iM_undos iM_images rM_fresher iM_fresherSize iM_scale iM_night rM_heardRow rM_cutRow iM_breaths iM_cutMany iM_allBreaths rM_trial rM_words iM_fewestBreaths iM_orderMany iM_orderSum iM_leastOrder rM_often iM_setMany iM_someOf iM_allOf iM_allWeight iM_enoughWeight iM_worthSum iM_firstRest iM_leastDrawn), (arI rM_r kM_r 287 fM_r), (arI rM_told kM_told 90 fM_told), (arI rM_trial kM_trial 90 fM_trial), (arI rM_often kM_often 4 fM_often)] s.heap.size = A at hD hE ⊢
  have hA : ∀ q : Nat, s.heap.size ≤ q → A q := fun q h => by rw [← hAe]; exact Or.inr h
  have hS : va_S A s.heap s.heap [] := va_S.rf
  have hl := lv_entry ([.ref oM, .int p0]) (n := 3) (Nat.le_of_ble_eq_true rfl)
  rw [lg_entry_eq]
  generalize (lg_sl ([.ref oM, .int p0]) ++ List.replicate (3 - (lg_sl ([.ref oM, .int p0])).length) Slot.unset).toArray = ls at hl ⊢
  have hl : lv_has ls 3 [(0, .ref oM), (1, .int p0)] := hl
  have hG := PX7_fitAt_eq iM_hasCourt fM_r fM_told iM_scale iM_night fM_trial fM_often iM_setMany iM_someOf iM_allOf p0
  have s_slips := r_R.slips
  have s_nodes := r_R.nodes
  have s_uns := r_R.uns
  refine lv_aload_n hx hb dX7_fitAt_0 rfl (lv_at hl 0 rfl) ?_
  have hMs := ml_of hD [true, false, false, false, false] (wc := [(oc7 oM iM_thrown rM_tape iM_taped iM_size iM_at iM_end iM_token iM_whole iM_nameSize iM_fault iM_place iM_trouble rM_letters iM_failed iM_hasCourt rM_r rM_fresh rM_told rM_read rM_st rM_undone rM_kept iM_undos iM_images rM_fresher iM_fresherSize iM_scale iM_night rM_heardRow rM_cutRow iM_breaths iM_cutMany iM_allBreaths rM_trial rM_words iM_fewestBreaths iM_orderMany iM_orderSum iM_leastOrder rM_often iM_setMany iM_someOf iM_allOf iM_allWeight iM_enoughWeight iM_worthSum iM_firstRest iM_leastDrawn)]) rfl
  have hFc := va_freeM hD hS hA _ hMs
  refine va_callv (va_runV (As := []) (rest := []) ⟨hx, hb, hml, hown, hts⟩ (tX7_good l dC dI _ oM iM_thrown rM_tape iM_taped iM_size iM_at iM_end iM_token iM_whole iM_nameSize iM_fault iM_place iM_trouble rM_letters iM_failed iM_hasCourt rM_r rM_fresh rM_told rM_read rM_st rM_undone rM_kept iM_undos iM_images rM_fresher iM_fresherSize iM_scale iM_night rM_heardRow rM_cutRow iM_breaths iM_cutMany iM_allBreaths rM_trial rM_words iM_fewestBreaths iM_orderMany iM_orderSum iM_leastOrder rM_often iM_setMany iM_someOf iM_allOf iM_allWeight iM_enoughWeight iM_worthSum iM_firstRest iM_leastDrawn b_iM_taped b_iM_size b_iM_end b_iM_failed b_iM_hasCourt b_iM_undos b_iM_images b_iM_scale b_iM_breaths b_iM_cutMany) (cwV 0 hts (wd_V wd_388 wd_389 wd_390 wd_5 (wd_c wd_391)) rfl rfl rfl dv_yX7_good_0 ⟨Nat.le_of_ble_eq_true rfl, Nat.le_of_ble_eq_true rfl⟩) ⟨Pw.fb, recvX7 hK hP (q0 := 0) rfl, fun U hU hW => Pw.to (hP.ms _ hMs) (hD.ms _ hMs) (hK.ms [false, false, false, false] rfl) hE hS hFc hU hW⟩ rfl rfl hl.1 rfl (lv_room (Nat.le_of_ble_eq_true rfl)) dX7_fitAt_1 ⟨Nat.le_of_ble_eq_true rfl, Nat.le_of_ble_eq_true rfl⟩) hS (fun q _ h => hFc q h) hFc (fun u t H locs ht hvm hw hB hz1 hk1 hS => ?_)
  refine ex_2_3 hB (fun x_2919 x_2920 b_x_2919 b_x_2920 e_x_2919_0 hB => ?_)
  obtain ⟨hP, hD⟩ := Bw.goN (ws' := [(oc7 oM x_2919 rM_tape iM_taped iM_size iM_at iM_end iM_token iM_whole iM_nameSize iM_fault iM_place x_2920 rM_letters iM_failed iM_hasCourt rM_r rM_fresh rM_told rM_read rM_st rM_undone rM_kept iM_undos iM_images rM_fresher iM_fresherSize iM_scale iM_night rM_heardRow rM_cutRow iM_breaths iM_cutMany iM_allBreaths rM_trial rM_words iM_fewestBreaths iM_orderMany iM_orderSum iM_leastOrder rM_often iM_setMany iM_someOf iM_allOf iM_allWeight iM_enoughWeight iM_worthSum iM_firstRest iM_leastDrawn), (arI rM_r kM_r 287 fM_r), (arI rM_told kM_told 90 fM_told), (arI rM_trial kM_trial 90 fM_trial), (arI rM_often kM_often 4 fM_often)]) hB rfl ht hP hD _ hMs hk1 hFc rfl
  clear hz1 hk1 hvm ht hB hMs
  have hG := hG.trans (un2_eq e_x_2919_0)
  refine lv_aload_n hx hb dX7_fitAt_4 rfl (lv_at hl 0 rfl) ?_
  rcases (id r_C) with r_C0 | r_C1
  · skip
    refine va_get (D := (dC, dI)) (ci := 7) (v := .int iM_hasCourt) (C := RX7) (T := TX7) (N := 48) hx hb hts inX7 hown hK hP 0 rfl rfl 14 (by decide) (hts _ wd_385) (fun _ h9 => h9) rfl dX7_fitAt_5 ?_
    refine lv_if_eq (tgt := 15) hx hb dX7_fitAt_8 (by decide) (fun c_2921 => ?_) (fun c_2921 => ?_)
    · skip
      have hG := hG.trans (if_pos c_2921)
      have gc_2921 := ti_eq c_2921 rfl kc_0
      refine lv_aload_n hx hb dX7_fitAt_15 rfl (lv_at hl 0 rfl) ?_
      refine lv_iconst (v := 1) hx hb dX7_fitAt_16 (by decide) ?_
      have hMs := ml_of hD [true, false, false, false, false] (wc := [(oc7 oM x_2919 rM_tape iM_taped iM_size iM_at iM_end iM_token iM_whole iM_nameSize iM_fault iM_place x_2920 rM_letters iM_failed iM_hasCourt rM_r rM_fresh rM_told rM_read rM_st rM_undone rM_kept iM_undos iM_images rM_fresher iM_fresherSize iM_scale iM_night rM_heardRow rM_cutRow iM_breaths iM_cutMany iM_allBreaths rM_trial rM_words iM_fewestBreaths iM_orderMany iM_orderSum iM_leastOrder rM_often iM_setMany iM_someOf iM_allOf iM_allWeight iM_enoughWeight iM_worthSum iM_firstRest iM_leastDrawn)]) rfl
      have hFc := va_freeM hD hS hA _ hMs
      refine va_calli (va_runV (As := [.int 1]) (rest := []) ⟨hx, hb, hml, hown, hts⟩ (tX7_no l dC dI _ oM x_2919 rM_tape iM_taped iM_size iM_at iM_end iM_token iM_whole iM_nameSize iM_fault iM_place x_2920 rM_letters iM_failed iM_hasCourt rM_r rM_fresh rM_told rM_read rM_st rM_undone rM_kept iM_undos iM_images rM_fresher iM_fresherSize iM_scale iM_night rM_heardRow rM_cutRow iM_breaths iM_cutMany iM_allBreaths rM_trial rM_words iM_fewestBreaths iM_orderMany iM_orderSum iM_leastOrder rM_often iM_setMany iM_someOf iM_allOf iM_allWeight iM_enoughWeight iM_worthSum iM_firstRest iM_leastDrawn 1 b_iM_taped b_iM_size b_iM_end b_iM_failed b_iM_hasCourt b_iM_undos b_iM_images b_iM_scale b_iM_breaths b_iM_cutMany) (cwV 1 hts (wd_V wd_396 wd_397 wd_398 wd_5 (wd_c wd_399)) rfl rfl rfl dv_yX7_no_1 ⟨Nat.le_of_ble_eq_true rfl, Nat.le_of_ble_eq_true rfl⟩) ⟨Pw.fb, recvX7 hK hP (q0 := 0) rfl, fun U hU hW => Pw.to (hP.ms _ hMs) (hD.ms _ hMs) (hK.ms [false, false, false, false] rfl) hE hS hFc hU hW⟩ rfl rfl hl.1 rfl (lv_room (Nat.le_of_ble_eq_true rfl)) dX7_fitAt_17 ⟨Nat.le_of_ble_eq_true rfl, Nat.le_of_ble_eq_true rfl⟩) hS (fun q _ h => hFc q h) hFc (fun r u t H locs ht hvm hw hB hz1 hk1 hS => ?_)
      have hru9 := hw.2
      have hw := hw.1
      refine ex_1_1 hB (fun x_2922 e_x_2922_0 hB => ?_)
      obtain ⟨hP, hD⟩ := Bw.goN (ws' := [(oc7 oM x_2919 rM_tape iM_taped iM_size iM_at iM_end iM_token iM_whole iM_nameSize iM_fault iM_place x_2922 rM_letters iM_failed iM_hasCourt rM_r rM_fresh rM_told rM_read rM_st rM_undone rM_kept iM_undos iM_images rM_fresher iM_fresherSize iM_scale iM_night rM_heardRow rM_cutRow iM_breaths iM_cutMany iM_allBreaths rM_trial rM_words iM_fewestBreaths iM_orderMany iM_orderSum iM_leastOrder rM_often iM_setMany iM_someOf iM_allOf iM_allWeight iM_enoughWeight iM_worthSum iM_firstRest iM_leastDrawn), (arI rM_r kM_r 287 fM_r), (arI rM_told kM_told 90 fM_told), (arI rM_trial kM_trial 90 fM_trial), (arI rM_often kM_often 4 fM_often)]) hB rfl ht hP hD _ hMs hk1 hFc rfl
      clear hz1 hk1 hvm ht hB hMs
      rw [← hru9] at e_x_2922_0
      obtain ⟨x_2923, rfl⟩ : ∃ z, z = r := ⟨_, rfl⟩
      have hG := hG.trans (un2_eq e_x_2922_0)
      exact wq_i hx hb hr (cI x_2923) ⟨⟨trivial, trivial⟩, (cI_of x_2923)⟩ (fun t ht hW => ⟨x_2919, x_2922, iM_setMany, iM_someOf, iM_allOf, fM_trial, fM_often, (cI_tup hG), Bw.to hP hD hK ht hW⟩) hS dX7_fitAt_20 hlocks
    · skip
      have hG := hG.trans (if_neg c_2921)
      have gc_2921 := ti_ne c_2921 rfl kc_0
      exact (om_c9ba8b89 gc_2921 r_C0 b_iM_hasCourt.1).elim
  · skip
    refine va_get (D := (dC, dI)) (ci := 7) (v := .int iM_hasCourt) (C := RX7) (T := TX7) (N := 48) hx hb hts inX7 hown hK hP 0 rfl rfl 14 (by decide) (hts _ wd_385) (fun _ h9 => h9) rfl dX7_fitAt_5 ?_
    refine lv_if_eq (tgt := 15) hx hb dX7_fitAt_8 (by decide) (fun c_2924 => ?_) (fun c_2924 => ?_)
    · skip
      have hG := hG.trans (if_pos c_2924)
      have gc_2924 := ti_eq c_2924 rfl kc_0
      refine lv_aload_n hx hb dX7_fitAt_15 rfl (lv_at hl 0 rfl) ?_
      refine lv_iconst (v := 1) hx hb dX7_fitAt_16 (by decide) ?_
      have hMs := ml_of hD [true, false, false, false, false] (wc := [(oc7 oM x_2919 rM_tape iM_taped iM_size iM_at iM_end iM_token iM_whole iM_nameSize iM_fault iM_place x_2920 rM_letters iM_failed iM_hasCourt rM_r rM_fresh rM_told rM_read rM_st rM_undone rM_kept iM_undos iM_images rM_fresher iM_fresherSize iM_scale iM_night rM_heardRow rM_cutRow iM_breaths iM_cutMany iM_allBreaths rM_trial rM_words iM_fewestBreaths iM_orderMany iM_orderSum iM_leastOrder rM_often iM_setMany iM_someOf iM_allOf iM_allWeight iM_enoughWeight iM_worthSum iM_firstRest iM_leastDrawn)]) rfl
      have hFc := va_freeM hD hS hA _ hMs
      refine va_calli (va_runV (As := [.int 1]) (rest := []) ⟨hx, hb, hml, hown, hts⟩ (tX7_no l dC dI _ oM x_2919 rM_tape iM_taped iM_size iM_at iM_end iM_token iM_whole iM_nameSize iM_fault iM_place x_2920 rM_letters iM_failed iM_hasCourt rM_r rM_fresh rM_told rM_read rM_st rM_undone rM_kept iM_undos iM_images rM_fresher iM_fresherSize iM_scale iM_night rM_heardRow rM_cutRow iM_breaths iM_cutMany iM_allBreaths rM_trial rM_words iM_fewestBreaths iM_orderMany iM_orderSum iM_leastOrder rM_often iM_setMany iM_someOf iM_allOf iM_allWeight iM_enoughWeight iM_worthSum iM_firstRest iM_leastDrawn 1 b_iM_taped b_iM_size b_iM_end b_iM_failed b_iM_hasCourt b_iM_undos b_iM_images b_iM_scale b_iM_breaths b_iM_cutMany) (cwV 1 hts (wd_V wd_396 wd_397 wd_398 wd_5 (wd_c wd_399)) rfl rfl rfl dv_yX7_no_1 ⟨Nat.le_of_ble_eq_true rfl, Nat.le_of_ble_eq_true rfl⟩) ⟨Pw.fb, recvX7 hK hP (q0 := 0) rfl, fun U hU hW => Pw.to (hP.ms _ hMs) (hD.ms _ hMs) (hK.ms [false, false, false, false] rfl) hE hS hFc hU hW⟩ rfl rfl hl.1 rfl (lv_room (Nat.le_of_ble_eq_true rfl)) dX7_fitAt_17 ⟨Nat.le_of_ble_eq_true rfl, Nat.le_of_ble_eq_true rfl⟩) hS (fun q _ h => hFc q h) hFc (fun r u t H locs ht hvm hw hB hz1 hk1 hS => ?_)
      have hru9 := hw.2
      have hw := hw.1
      refine ex_1_1 hB (fun x_2925 e_x_2925_0 hB => ?_)
      obtain ⟨hP, hD⟩ := Bw.goN (ws' := [(oc7 oM x_2919 rM_tape iM_taped iM_size iM_at iM_end iM_token iM_whole iM_nameSize iM_fault iM_place x_2925 rM_letters iM_failed iM_hasCourt rM_r rM_fresh rM_told rM_read rM_st rM_undone rM_kept iM_undos iM_images rM_fresher iM_fresherSize iM_scale iM_night rM_heardRow rM_cutRow iM_breaths iM_cutMany iM_allBreaths rM_trial rM_words iM_fewestBreaths iM_orderMany iM_orderSum iM_leastOrder rM_often iM_setMany iM_someOf iM_allOf iM_allWeight iM_enoughWeight iM_worthSum iM_firstRest iM_leastDrawn), (arI rM_r kM_r 287 fM_r), (arI rM_told kM_told 90 fM_told), (arI rM_trial kM_trial 90 fM_trial), (arI rM_often kM_often 4 fM_often)]) hB rfl ht hP hD _ hMs hk1 hFc rfl
      clear hz1 hk1 hvm ht hB hMs
      rw [← hru9] at e_x_2925_0
      obtain ⟨x_2926, rfl⟩ : ∃ z, z = r := ⟨_, rfl⟩
      have hG := hG.trans (un2_eq e_x_2925_0)
      exact wq_i hx hb hr (cI x_2926) ⟨⟨trivial, trivial⟩, (cI_of x_2926)⟩ (fun t ht hW => ⟨x_2919, x_2925, iM_setMany, iM_someOf, iM_allOf, fM_trial, fM_often, (cI_tup hG), Bw.to hP hD hK ht hW⟩) hS dX7_fitAt_20 hlocks
    · skip
      have hG := hG.trans (if_neg c_2924)
      have gc_2924 := ti_ne c_2924 rfl kc_0
      refine lv_iload_n hx hb dX7_fitAt_11 rfl (lv_at hl 1 rfl) ?_
      refine lv_if_ge (tgt := 21) hx hb dX7_fitAt_12 (by decide) (fun c_2927 => ?_) (fun c_2927 => ?_)
      · skip
        have hG := hG.trans (if_pos c_2927)
        have gc_2927 := ti_le c_2927 kc_0 rfl
        refine lv_aload_n hx hb dX7_fitAt_21 rfl (lv_at hl 0 rfl) ?_
        refine lv_iload_n hx hb dX7_fitAt_22 rfl (lv_at hl 1 rfl) ?_
        have hFc := va_freeI hD hS hA
        refine va_calli (va_runV (As := [.int p0]) (rest := []) ⟨hx, hb, hml, hown, hts⟩ (tX7_seekSets l dC dI _ oM x_2919 rM_tape iM_taped iM_size iM_at iM_end iM_token iM_whole iM_nameSize iM_fault iM_place x_2920 rM_letters iM_failed iM_hasCourt rM_r fM_r kM_r rM_fresh rM_told fM_told kM_told rM_read rM_st rM_undone rM_kept iM_undos iM_images rM_fresher iM_fresherSize iM_scale iM_night rM_heardRow rM_cutRow iM_breaths iM_cutMany iM_allBreaths rM_trial fM_trial kM_trial rM_words iM_fewestBreaths iM_orderMany iM_orderSum iM_leastOrder rM_often fM_often kM_often iM_setMany iM_someOf iM_allOf iM_allWeight iM_enoughWeight iM_worthSum iM_firstRest iM_leastDrawn p0 b_iM_taped b_iM_size b_iM_end b_iM_failed b_iM_hasCourt b_iM_undos b_iM_images b_iM_scale b_iM_breaths b_iM_cutMany (by assumption) (by assumption) (by assumption) ⟨r_C1.2.1, r_C1.2.2⟩) (cwV 1 hts (wd_V wd_1182 wd_1183 wd_1184 wd_5 (wd_c wd_1185)) rfl rfl rfl dv_yX7_seekSets_1 ⟨Nat.le_of_ble_eq_true rfl, Nat.le_of_ble_eq_true rfl⟩) ⟨Pw.fb, recvX7 hK hP (q0 := 0) rfl, fun U hU hW => Pw.to hP hD hK hE hS hFc hU hW⟩ rfl rfl hl.1 rfl (lv_room (Nat.le_of_ble_eq_true rfl)) dX7_fitAt_23 ⟨Nat.le_of_ble_eq_true rfl, Nat.le_of_ble_eq_true rfl⟩) hS (fun q _ h => hFc q h) hFc (fun r u t H locs ht hvm hw hB hz1 hk1 hS => ?_)
        have hru9 := hw.2
        have hw := hw.1
        refine ex_5_1 hB (fun x_2928 x_2929 x_2930 f_2931 f_2932 e_x_2928_0 hB => ?_)
        obtain ⟨hP, hD⟩ := Bw.goA (ws' := [(oc7 oM x_2919 rM_tape iM_taped iM_size iM_at iM_end iM_token iM_whole iM_nameSize iM_fault iM_place x_2920 rM_letters iM_failed iM_hasCourt rM_r rM_fresh rM_told rM_read rM_st rM_undone rM_kept iM_undos iM_images rM_fresher iM_fresherSize iM_scale iM_night rM_heardRow rM_cutRow iM_breaths iM_cutMany iM_allBreaths rM_trial rM_words iM_fewestBreaths iM_orderMany iM_orderSum iM_leastOrder rM_often x_2928 x_2929 x_2930 iM_allWeight iM_enoughWeight iM_worthSum iM_firstRest iM_leastDrawn), (arI rM_r kM_r 287 fM_r), (arI rM_told kM_told 90 fM_told), (arI rM_trial kM_trial 90 f_2931), (arI rM_often kM_often 4 f_2932)]) hB rfl ht hFc rfl
        clear hz1 hk1 hvm ht hB
        rw [← hru9] at e_x_2928_0
        obtain ⟨x_2933, rfl⟩ : ∃ z, z = r := ⟨_, rfl⟩
        have hG := hG.trans (un6_eq e_x_2928_0)
        refine lv_istore_n (lv' := [(2, .int x_2933), (0, .ref oM), (1, .int p0)]) hx hb dX7_fitAt_26 rfl hl (by decide) rfl (fun ls hl => ?_)
        refine lv_iload_n hx hb dX7_fitAt_27 rfl (lv_at hl 0 rfl) ?_
        refine lv_if_ge (tgt := 39) hx hb dX7_fitAt_28 (by decide) (fun c_2934 => ?_) (fun c_2934 => ?_)
        · skip
          have hG := hG.trans (if_pos c_2934)
          have gc_2934 := ti_le c_2934 kc_0 rfl
          refine lv_iload_n hx hb dX7_fitAt_39 rfl (lv_at hl 0 rfl) ?_
          exact wq_i hx hb hr (cI x_2933) ⟨⟨trivial, trivial⟩, (cI_of x_2933)⟩ (fun t ht hW => ⟨x_2919, x_2920, x_2928, x_2929, x_2930, f_2931, f_2932, (cI_tup hG), Bw.to hP hD hK ht hW⟩) hS dX7_fitAt_40 hlocks
        · skip
          have hG := hG.trans (if_neg c_2934)
          have gc_2934 := ti_nle c_2934 kc_0 rfl
          refine lv_aload_n hx hb dX7_fitAt_31 rfl (lv_at hl 1 rfl) ?_
          refine lv_iconst (v := 1) hx hb dX7_fitAt_32 (by decide) ?_
          have hMs := ml_of hD [true, false, false, false, false] (wc := [(oc7 oM x_2919 rM_tape iM_taped iM_size iM_at iM_end iM_token iM_whole iM_nameSize iM_fault iM_place x_2920 rM_letters iM_failed iM_hasCourt rM_r rM_fresh rM_told rM_read rM_st rM_undone rM_kept iM_undos iM_images rM_fresher iM_fresherSize iM_scale iM_night rM_heardRow rM_cutRow iM_breaths iM_cutMany iM_allBreaths rM_trial rM_words iM_fewestBreaths iM_orderMany iM_orderSum iM_leastOrder rM_often x_2928 x_2929 x_2930 iM_allWeight iM_enoughWeight iM_worthSum iM_firstRest iM_leastDrawn)]) rfl
          have hFc := va_freeM hD hS hA _ hMs
          refine va_calli (va_runV (As := [.int 1]) (rest := []) ⟨hx, hb, hml, hown, hts⟩ (tX7_no l dC dI _ oM x_2919 rM_tape iM_taped iM_size iM_at iM_end iM_token iM_whole iM_nameSize iM_fault iM_place x_2920 rM_letters iM_failed iM_hasCourt rM_r rM_fresh rM_told rM_read rM_st rM_undone rM_kept iM_undos iM_images rM_fresher iM_fresherSize iM_scale iM_night rM_heardRow rM_cutRow iM_breaths iM_cutMany iM_allBreaths rM_trial rM_words iM_fewestBreaths iM_orderMany iM_orderSum iM_leastOrder rM_often x_2928 x_2929 x_2930 iM_allWeight iM_enoughWeight iM_worthSum iM_firstRest iM_leastDrawn 1 b_iM_taped b_iM_size b_iM_end b_iM_failed b_iM_hasCourt b_iM_undos b_iM_images b_iM_scale b_iM_breaths b_iM_cutMany) (cwV 1 hts (wd_V wd_396 wd_397 wd_398 wd_5 (wd_c wd_399)) rfl rfl rfl dv_yX7_no_1 ⟨Nat.le_of_ble_eq_true rfl, Nat.le_of_ble_eq_true rfl⟩) ⟨Pw.fb, recvX7 hK hP (q0 := 0) rfl, fun U hU hW => Pw.to (hP.ms _ hMs) (hD.ms _ hMs) (hK.ms [false, false, false, false] rfl) hE hS hFc hU hW⟩ rfl rfl hl.1 rfl (lv_room (Nat.le_of_ble_eq_true rfl)) dX7_fitAt_33 ⟨Nat.le_of_ble_eq_true rfl, Nat.le_of_ble_eq_true rfl⟩) hS (fun q _ h => hFc q h) hFc (fun r u t H locs ht hvm hw hB hz1 hk1 hS => ?_)
          have hru9 := hw.2
          have hw := hw.1
          refine ex_1_1 hB (fun x_2935 e_x_2935_0 hB => ?_)
          obtain ⟨hP, hD⟩ := Bw.goN (ws' := [(oc7 oM x_2919 rM_tape iM_taped iM_size iM_at iM_end iM_token iM_whole iM_nameSize iM_fault iM_place x_2935 rM_letters iM_failed iM_hasCourt rM_r rM_fresh rM_told rM_read rM_st rM_undone rM_kept iM_undos iM_images rM_fresher iM_fresherSize iM_scale iM_night rM_heardRow rM_cutRow iM_breaths iM_cutMany iM_allBreaths rM_trial rM_words iM_fewestBreaths iM_orderMany iM_orderSum iM_leastOrder rM_often x_2928 x_2929 x_2930 iM_allWeight iM_enoughWeight iM_worthSum iM_firstRest iM_leastDrawn), (arI rM_r kM_r 287 fM_r), (arI rM_told kM_told 90 fM_told), (arI rM_trial kM_trial 90 f_2931), (arI rM_often kM_often 4 f_2932)]) hB rfl ht hP hD _ hMs hk1 hFc rfl
          clear hz1 hk1 hvm ht hB hMs
          rw [← hru9] at e_x_2935_0
          obtain ⟨x_2936, rfl⟩ : ∃ z, z = r := ⟨_, rfl⟩
          have hG := hG.trans (un2_eq e_x_2935_0)
          refine lv_goto (tgt := 40) hx hb dX7_fitAt_36 (by decide) ?_
          exact wq_i hx hb hr (cI x_2936) ⟨⟨trivial, trivial⟩, (cI_of x_2936)⟩ (fun t ht hW => ⟨x_2919, x_2935, x_2928, x_2929, x_2930, f_2931, f_2932, (cI_tup hG), Bw.to hP hD hK ht hW⟩) hS dX7_fitAt_40 hlocks
      · skip
        have hG := hG.trans (if_neg c_2927)
        have gc_2927 := ti_nle c_2927 kc_0 rfl
        refine lv_aload_n hx hb dX7_fitAt_15 rfl (lv_at hl 0 rfl) ?_
        refine lv_iconst (v := 1) hx hb dX7_fitAt_16 (by decide) ?_
        have hMs := ml_of hD [true, false, false, false, false] (wc := [(oc7 oM x_2919 rM_tape iM_taped iM_size iM_at iM_end iM_token iM_whole iM_nameSize iM_fault iM_place x_2920 rM_letters iM_failed iM_hasCourt rM_r rM_fresh rM_told rM_read rM_st rM_undone rM_kept iM_undos iM_images rM_fresher iM_fresherSize iM_scale iM_night rM_heardRow rM_cutRow iM_breaths iM_cutMany iM_allBreaths rM_trial rM_words iM_fewestBreaths iM_orderMany iM_orderSum iM_leastOrder rM_often iM_setMany iM_someOf iM_allOf iM_allWeight iM_enoughWeight iM_worthSum iM_firstRest iM_leastDrawn)]) rfl
        have hFc := va_freeM hD hS hA _ hMs
        refine va_calli (va_runV (As := [.int 1]) (rest := []) ⟨hx, hb, hml, hown, hts⟩ (tX7_no l dC dI _ oM x_2919 rM_tape iM_taped iM_size iM_at iM_end iM_token iM_whole iM_nameSize iM_fault iM_place x_2920 rM_letters iM_failed iM_hasCourt rM_r rM_fresh rM_told rM_read rM_st rM_undone rM_kept iM_undos iM_images rM_fresher iM_fresherSize iM_scale iM_night rM_heardRow rM_cutRow iM_breaths iM_cutMany iM_allBreaths rM_trial rM_words iM_fewestBreaths iM_orderMany iM_orderSum iM_leastOrder rM_often iM_setMany iM_someOf iM_allOf iM_allWeight iM_enoughWeight iM_worthSum iM_firstRest iM_leastDrawn 1 b_iM_taped b_iM_size b_iM_end b_iM_failed b_iM_hasCourt b_iM_undos b_iM_images b_iM_scale b_iM_breaths b_iM_cutMany) (cwV 1 hts (wd_V wd_396 wd_397 wd_398 wd_5 (wd_c wd_399)) rfl rfl rfl dv_yX7_no_1 ⟨Nat.le_of_ble_eq_true rfl, Nat.le_of_ble_eq_true rfl⟩) ⟨Pw.fb, recvX7 hK hP (q0 := 0) rfl, fun U hU hW => Pw.to (hP.ms _ hMs) (hD.ms _ hMs) (hK.ms [false, false, false, false] rfl) hE hS hFc hU hW⟩ rfl rfl hl.1 rfl (lv_room (Nat.le_of_ble_eq_true rfl)) dX7_fitAt_17 ⟨Nat.le_of_ble_eq_true rfl, Nat.le_of_ble_eq_true rfl⟩) hS (fun q _ h => hFc q h) hFc (fun r u t H locs ht hvm hw hB hz1 hk1 hS => ?_)
        have hru9 := hw.2
        have hw := hw.1
        refine ex_1_1 hB (fun x_2937 e_x_2937_0 hB => ?_)
        obtain ⟨hP, hD⟩ := Bw.goN (ws' := [(oc7 oM x_2919 rM_tape iM_taped iM_size iM_at iM_end iM_token iM_whole iM_nameSize iM_fault iM_place x_2937 rM_letters iM_failed iM_hasCourt rM_r rM_fresh rM_told rM_read rM_st rM_undone rM_kept iM_undos iM_images rM_fresher iM_fresherSize iM_scale iM_night rM_heardRow rM_cutRow iM_breaths iM_cutMany iM_allBreaths rM_trial rM_words iM_fewestBreaths iM_orderMany iM_orderSum iM_leastOrder rM_often iM_setMany iM_someOf iM_allOf iM_allWeight iM_enoughWeight iM_worthSum iM_firstRest iM_leastDrawn), (arI rM_r kM_r 287 fM_r), (arI rM_told kM_told 90 fM_told), (arI rM_trial kM_trial 90 fM_trial), (arI rM_often kM_often 4 fM_often)]) hB rfl ht hP hD _ hMs hk1 hFc rfl
        clear hz1 hk1 hvm ht hB hMs
        rw [← hru9] at e_x_2937_0
        obtain ⟨x_2938, rfl⟩ : ∃ z, z = r := ⟨_, rfl⟩
        have hG := hG.trans (un2_eq e_x_2937_0)
        exact wq_i hx hb hr (cI x_2938) ⟨⟨trivial, trivial⟩, (cI_of x_2938)⟩ (fun t ht hW => ⟨x_2919, x_2937, iM_setMany, iM_someOf, iM_allOf, fM_trial, fM_often, (cI_tup hG), Bw.to hP hD hK ht hW⟩) hS dX7_fitAt_20 hlocks
set_option maxHeartbeats 4000000 in
set_option maxRecDepth 100000 in
theorem tX7_speaks (l : Launch) (dC : Nat → ClassId) (dI : Nat → Nat → Nat) (sz : Nat) (oM : Nat) (iM_thrown : Int32) (rM_tape : Nat) (iM_taped : Int32) (iM_size : Int32) (iM_at : Int32) (iM_end : Int32) (iM_token : Int32) (iM_whole : Int32) (iM_nameSize : Int32) (iM_fault : Int32) (iM_place : Int32) (iM_trouble : Int32) (rM_letters : Nat) (iM_failed : Int32) (iM_hasCourt : Int32) (rM_r : Nat) (fM_r : Nat → Int32) (kM_r : ClassId) (rM_fresh : Nat) (rM_told : Nat) (rM_read : Nat) (rM_st : Nat) (rM_undone : Nat) (rM_kept : Nat) (iM_undos : Int32) (iM_images : Int32) (rM_fresher : Nat) (iM_fresherSize : Int32) (iM_scale : Int32) (iM_night : Int32) (rM_heardRow : Nat) (rM_cutRow : Nat) (iM_breaths : Int32) (iM_cutMany : Int32) (iM_allBreaths : Int32) (rM_trial : Nat) (rM_words : Nat) (iM_fewestBreaths : Int32) (iM_orderMany : Int32) (iM_orderSum : Int32) (iM_leastOrder : Int32) (rM_often : Nat) (iM_setMany : Int32) (iM_someOf : Int32) (iM_allOf : Int32) (iM_allWeight : Int64) (iM_enoughWeight : Int64) (iM_worthSum : Int64) (iM_firstRest : Int32) (iM_leastDrawn : Int32) (p0 : Int32) (p1 : Int32) (p2 : Int32) (p3 : Int32) (b_iM_taped : 0 ≤ iM_taped.toInt ∧ iM_taped.toInt ≤ 900) (b_iM_size : 0 ≤ iM_size.toInt ∧ iM_size.toInt ≤ 900) (b_iM_end : 0 ≤ iM_end.toInt ∧ iM_end.toInt ≤ 900) (b_iM_failed : 0 ≤ iM_failed.toInt ∧ iM_failed.toInt ≤ 1) (b_iM_hasCourt : 0 ≤ iM_hasCourt.toInt ∧ iM_hasCourt.toInt ≤ 1) (b_iM_undos : 0 ≤ iM_undos.toInt ∧ iM_undos.toInt ≤ 16) (b_iM_images : 0 ≤ iM_images.toInt ∧ iM_images.toInt ≤ 3) (b_iM_scale : 1 ≤ iM_scale.toInt ∧ iM_scale.toInt ≤ 1296) (b_iM_breaths : 0 ≤ iM_breaths.toInt ∧ iM_breaths.toInt ≤ 399) (b_iM_cutMany : 0 ≤ iM_cutMany.toInt ∧ iM_cutMany.toInt ≤ 399) (r_R : ROk fM_r) (r_C : iM_hasCourt.toInt ≤ 0 ∨ (1 ≤ (fM_r 1).toInt ∧ 0 ≤ (fM_r 6).toInt ∧ (fM_r 6).toInt < (fM_r 1).toInt))  : Met l yX7_speaks (Cond.code yX7_speaks cX7_speaks 6 (some .int) :: wG) ({ frames := 1, cells := 0, slots := 0, locals := 22 }) (va_Pc [.ref oM, .int p0, .int p1, .int p2, .int p3] (Pw dC dI sz [(oc7 oM iM_thrown rM_tape iM_taped iM_size iM_at iM_end iM_token iM_whole iM_nameSize iM_fault iM_place iM_trouble rM_letters iM_failed iM_hasCourt rM_r rM_fresh rM_told rM_read rM_st rM_undone rM_kept iM_undos iM_images rM_fresher iM_fresherSize iM_scale iM_night rM_heardRow rM_cutRow iM_breaths iM_cutMany iM_allBreaths rM_trial rM_words iM_fewestBreaths iM_orderMany iM_orderSum iM_leastOrder rM_often iM_setMany iM_someOf iM_allOf iM_allWeight iM_enoughWeight iM_worthSum iM_firstRest iM_leastDrawn), (arI rM_r kM_r 287 fM_r)] [(kM_r, .int)])) (va_Qi (fun (r : Int32) (u : Nat) => (True ∧ True) ∧ r = Int32.ofNat u) (fun (u : Nat) (t : State) => ∃ (niM_thrown : Int32) (niM_trouble : Int32), (PX7_speaks iM_hasCourt p0 p1 p2 p3 = (Int32.ofNat u, niM_thrown, niM_trouble)) ∧ Bw dC dI (va_A [(oc7 oM iM_thrown rM_tape iM_taped iM_size iM_at iM_end iM_token iM_whole iM_nameSize iM_fault iM_place iM_trouble rM_letters iM_failed iM_hasCourt rM_r rM_fresh rM_told rM_read rM_st rM_undone rM_kept iM_undos iM_images rM_fresher iM_fresherSize iM_scale iM_night rM_heardRow rM_cutRow iM_breaths iM_cutMany iM_allBreaths rM_trial rM_words iM_fewestBreaths iM_orderMany iM_orderSum iM_leastOrder rM_often iM_setMany iM_someOf iM_allOf iM_allWeight iM_enoughWeight iM_worthSum iM_firstRest iM_leastDrawn), (arI rM_r kM_r 287 fM_r)] sz) [(oc7 oM niM_thrown rM_tape iM_taped iM_size iM_at iM_end iM_token iM_whole iM_nameSize iM_fault iM_place niM_trouble rM_letters iM_failed iM_hasCourt rM_r rM_fresh rM_told rM_read rM_st rM_undone rM_kept iM_undos iM_images rM_fresher iM_fresherSize iM_scale iM_night rM_heardRow rM_cutRow iM_breaths iM_cutMany iM_allBreaths rM_trial rM_words iM_fewestBreaths iM_orderMany iM_orderSum iM_leastOrder rM_often iM_setMany iM_someOf iM_allOf iM_allWeight iM_enoughWeight iM_worthSum iM_firstRest iM_leastDrawn), (arI rM_r kM_r 287 fM_r)] [(kM_r, .int)] t) (va_A [(oc7 oM iM_thrown rM_tape iM_taped iM_size iM_at iM_end iM_token iM_whole iM_nameSize iM_fault iM_place iM_trouble rM_letters iM_failed iM_hasCourt rM_r rM_fresh rM_told rM_read rM_st rM_undone rM_kept iM_undos iM_images rM_fresher iM_fresherSize iM_scale iM_night rM_heardRow rM_cutRow iM_breaths iM_cutMany iM_allBreaths rM_trial rM_words iM_fewestBreaths iM_orderMany iM_orderSum iM_leastOrder rM_often iM_setMany iM_someOf iM_allOf iM_allWeight iM_enoughWeight iM_worthSum iM_firstRest iM_leastDrawn), (arI rM_r kM_r 287 fM_r)] sz)) 0 0 (va_A [(oc7 oM iM_thrown rM_tape iM_taped iM_size iM_at iM_end iM_token iM_whole iM_nameSize iM_fault iM_place iM_trouble rM_letters iM_failed iM_hasCourt rM_r rM_fresh rM_told rM_read rM_st rM_undone rM_kept iM_undos iM_images rM_fresher iM_fresherSize iM_scale iM_night rM_heardRow rM_cutRow iM_breaths iM_cutMany iM_allBreaths rM_trial rM_words iM_fewestBreaths iM_orderMany iM_orderSum iM_leastOrder rM_often iM_setMany iM_someOf iM_allOf iM_allWeight iM_enoughWeight iM_worthSum iM_firstRest iM_leastDrawn), (arI rM_r kM_r 287 fM_r)] sz) := by
  refine Met.ofW (cc := cX7_speaks) (maxL := 6) (ret := (some .int)) pnX7 rfl ?_
  intro p e s m args below meth c s₁ B hml hv
  obtain ⟨rfl, hsz, hP, hK, hD0, hE⟩ := hv
  have hx := B.exec
  have hb := B.bytes
  have hr := B.returns
  have hts : ∀ w ∈ wG, w.before ([.ref oM, .int p0, .int p1, .int p2, .int p3] : List Value).toArray s = true := fun w h => atoms_spec (ws := Cond.code yX7_speaks cX7_speaks 6 (some .int) :: wG) B.pre w (List.mem_cons_of_mem _ h)
  have hown : s.vm.findClass RX7 = some m.cls := own_of B.named rfl
  have hlocks := B.notSynchronized
  subst hsz
  have hD := hD0.self (sz := s.heap.size)
  generalize hAe : va_A [(oc7 oM iM_thrown rM_tape iM_taped iM_size iM_at iM_end iM_token iM_whole iM_nameSize iM_fault iM_place iM_trouble rM_letters iM_failed iM_hasCourt rM_r rM_fresh rM_told rM_read rM_st rM_undone rM_kept iM_undos iM_images rM_fresher iM_fresherSize iM_scale iM_night rM_heardRow rM_cutRow iM_breaths iM_cutMany iM_allBreaths rM_trial rM_words iM_fewestBreaths iM_orderMany iM_orderSum iM_leastOrder rM_often iM_setMany iM_someOf iM_allOf iM_allWeight iM_enoughWeight iM_worthSum iM_firstRest iM_leastDrawn), (arI rM_r kM_r 287 fM_r)] s.heap.size = A at hD hE ⊢
  have hA : ∀ q : Nat, s.heap.size ≤ q → A q := fun q h => by rw [← hAe]; exact Or.inr h
  have hS : va_S A s.heap s.heap [] := va_S.rf
  have hl := lv_entry ([.ref oM, .int p0, .int p1, .int p2, .int p3]) (n := 6) (Nat.le_of_ble_eq_true rfl)
  rw [lg_entry_eq]
  generalize (lg_sl ([.ref oM, .int p0, .int p1, .int p2, .int p3]) ++ List.replicate (6 - (lg_sl ([.ref oM, .int p0, .int p1, .int p2, .int p3])).length) Slot.unset).toArray = ls at hl ⊢
  have hl : lv_has ls 6 [(0, .ref oM), (1, .int p0), (2, .int p1), (3, .int p2), (4, .int p3)] := hl
  have hG := PX7_speaks_eq iM_hasCourt p0 p1 p2 p3
  have s_slips := r_R.slips
  have s_nodes := r_R.nodes
  have s_uns := r_R.uns
  refine lv_aload_n hx hb dX7_speaks_0 rfl (lv_at hl 0 rfl) ?_
  have hMs := ml_of hD [true, false] (wc := [(oc7 oM iM_thrown rM_tape iM_taped iM_size iM_at iM_end iM_token iM_whole iM_nameSize iM_fault iM_place iM_trouble rM_letters iM_failed iM_hasCourt rM_r rM_fresh rM_told rM_read rM_st rM_undone rM_kept iM_undos iM_images rM_fresher iM_fresherSize iM_scale iM_night rM_heardRow rM_cutRow iM_breaths iM_cutMany iM_allBreaths rM_trial rM_words iM_fewestBreaths iM_orderMany iM_orderSum iM_leastOrder rM_often iM_setMany iM_someOf iM_allOf iM_allWeight iM_enoughWeight iM_worthSum iM_firstRest iM_leastDrawn)]) rfl
  have hFc := va_freeM hD hS hA _ hMs
  refine va_callv (va_runV (As := []) (rest := []) ⟨hx, hb, hml, hown, hts⟩ (tX7_good l dC dI _ oM iM_thrown rM_tape iM_taped iM_size iM_at iM_end iM_token iM_whole iM_nameSize iM_fault iM_place iM_trouble rM_letters iM_failed iM_hasCourt rM_r rM_fresh rM_told rM_read rM_st rM_undone rM_kept iM_undos iM_images rM_fresher iM_fresherSize iM_scale iM_night rM_heardRow rM_cutRow iM_breaths iM_cutMany iM_allBreaths rM_trial rM_words iM_fewestBreaths iM_orderMany iM_orderSum iM_leastOrder rM_often iM_setMany iM_someOf iM_allOf iM_allWeight iM_enoughWeight iM_worthSum iM_firstRest iM_leastDrawn b_iM_taped b_iM_size b_iM_end b_iM_failed b_iM_hasCourt b_iM_undos b_iM_images b_iM_scale b_iM_breaths b_iM_cutMany) (cwV 0 hts (wd_V wd_388 wd_389 wd_390 wd_5 (wd_c wd_391)) rfl rfl rfl dv_yX7_good_0 ⟨Nat.le_of_ble_eq_true rfl, Nat.le_of_ble_eq_true rfl⟩) ⟨Pw.fb, recvX7 hK hP (q0 := 0) rfl, fun U hU hW => Pw.to (hP.ms _ hMs) (hD.ms _ hMs) (hK.ms [false] rfl) hE hS hFc hU hW⟩ rfl rfl hl.1 rfl (lv_room (Nat.le_of_ble_eq_true rfl)) dX7_speaks_1 ⟨Nat.le_of_ble_eq_true rfl, Nat.le_of_ble_eq_true rfl⟩) hS (fun q _ h => hFc q h) hFc (fun u t H locs ht hvm hw hB hz1 hk1 hS => ?_)
  refine ex_2_3 hB (fun x_2949 x_2950 b_x_2949 b_x_2950 e_x_2949_0 hB => ?_)
  obtain ⟨hP, hD⟩ := Bw.goN (ws' := [(oc7 oM x_2949 rM_tape iM_taped iM_size iM_at iM_end iM_token iM_whole iM_nameSize iM_fault iM_place x_2950 rM_letters iM_failed iM_hasCourt rM_r rM_fresh rM_told rM_read rM_st rM_undone rM_kept iM_undos iM_images rM_fresher iM_fresherSize iM_scale iM_night rM_heardRow rM_cutRow iM_breaths iM_cutMany iM_allBreaths rM_trial rM_words iM_fewestBreaths iM_orderMany iM_orderSum iM_leastOrder rM_often iM_setMany iM_someOf iM_allOf iM_allWeight iM_enoughWeight iM_worthSum iM_firstRest iM_leastDrawn), (arI rM_r kM_r 287 fM_r)]) hB rfl ht hP hD _ hMs hk1 hFc rfl
  clear hz1 hk1 hvm ht hB hMs
  have hG := hG.trans (un2_eq e_x_2949_0)
  refine lv_aload_n hx hb dX7_speaks_4 rfl (lv_at hl 0 rfl) ?_
  refine lv_iload_n hx hb dX7_speaks_5 rfl (lv_at hl 1 rfl) ?_
  refine lv_iconst (v := 0) hx hb dX7_speaks_6 (by decide) ?_
  refine lv_bipush (v := 9) hx hb dX7_speaks_7 (by decide) ?_
  have hFc : ∀ q, va_A [] _ q → A q := fun q h => hA q (Nat.le_trans hS.1 (va_nilA h))
  refine va_calli (va_runS (As := [.int p0, .int 0, .int 9]) (rest := [.ref oM]) ⟨hx, hb, hml, hown, hts⟩ (tX7_in l dC dI _ p0 0 9 ) (va_cwS 3 hts (wd_S wd_393 wd_394 wd_5 (wd_c wd_395)) rfl rfl rfl ds_yX7_in_3 ⟨Nat.le_of_ble_eq_true rfl, Nat.le_of_ble_eq_true rfl⟩) ⟨Pw.fb, fun U hU hW => Pn.to hK hE hS hA hU hW⟩ rfl rfl hl.1 rfl (lv_room (Nat.le_of_ble_eq_true rfl)) dX7_speaks_9 ⟨Nat.le_of_ble_eq_true rfl, Nat.le_of_ble_eq_true rfl⟩) hS (fun q _ h => hFc q h) hFc (fun r u t H locs ht hvm hw hB hz1 hk1 hS => ?_)
  obtain ⟨hP, hD, hK⟩ := Bw.same ht hvm hP hD hK hk1 hFc
  clear hz1 hk1 hvm ht hB
  have hq9 := hw.2
  have hw := hw.1
  obtain ⟨x_2951, rfl⟩ : ∃ z, z = r := ⟨_, rfl⟩
  have hq_x_2951 := hq9
  have hG := hG.trans (lt_eq hq_x_2951.symm)
  have bx_2951 := hw.1
  have dx_2951 := bz_tb bx_2951
  have px_2951 := hw.2
  have hFc := va_freeI hD hS hA
  refine va_calli (va_runV (As := [.int x_2951]) (rest := []) ⟨hx, hb, hml, hown, hts⟩ (tX7_why l dC dI _ oM x_2949 rM_tape iM_taped iM_size iM_at iM_end iM_token iM_whole iM_nameSize iM_fault iM_place x_2950 rM_letters iM_failed iM_hasCourt rM_r fM_r kM_r rM_fresh rM_told rM_read rM_st rM_undone rM_kept iM_undos iM_images rM_fresher iM_fresherSize iM_scale iM_night rM_heardRow rM_cutRow iM_breaths iM_cutMany iM_allBreaths rM_trial rM_words iM_fewestBreaths iM_orderMany iM_orderSum iM_leastOrder rM_often iM_setMany iM_someOf iM_allOf iM_allWeight iM_enoughWeight iM_worthSum iM_firstRest iM_leastDrawn x_2951 b_iM_taped b_iM_size b_iM_end b_iM_failed b_iM_hasCourt b_iM_undos b_iM_images b_iM_scale b_iM_breaths b_iM_cutMany (by assumption) (by assumption) ⟨dx_2951.1, dx_2951.2⟩) (cwV 1 hts (wd_V wd_882 wd_883 wd_884 wd_5 (wd_c wd_885)) rfl rfl rfl dv_yX7_why_1 ⟨Nat.le_of_ble_eq_true rfl, Nat.le_of_ble_eq_true rfl⟩) ⟨Pw.fb, recvX7 hK hP (q0 := 0) rfl, fun U hU hW => Pw.to hP hD hK hE hS hFc hU hW⟩ rfl rfl hl.1 rfl (lv_room (Nat.le_of_ble_eq_true rfl)) dX7_speaks_12 ⟨Nat.le_of_ble_eq_true rfl, Nat.le_of_ble_eq_true rfl⟩) hS (fun q _ h => hFc q h) hFc (fun r u t H locs ht hvm hw hB hz1 hk1 hS => ?_)
  have hru9 := hw.2
  have hw := hw.1
  obtain ⟨hP, hD⟩ := Bw.goA (ws' := [(oc7 oM x_2949 rM_tape iM_taped iM_size iM_at iM_end iM_token iM_whole iM_nameSize iM_fault iM_place x_2950 rM_letters iM_failed iM_hasCourt rM_r rM_fresh rM_told rM_read rM_st rM_undone rM_kept iM_undos iM_images rM_fresher iM_fresherSize iM_scale iM_night rM_heardRow rM_cutRow iM_breaths iM_cutMany iM_allBreaths rM_trial rM_words iM_fewestBreaths iM_orderMany iM_orderSum iM_leastOrder rM_often iM_setMany iM_someOf iM_allOf iM_allWeight iM_enoughWeight iM_worthSum iM_firstRest iM_leastDrawn), (arI rM_r kM_r 287 fM_r)]) hB rfl ht hFc rfl
  clear hz1 hk1 hvm ht hB
  rcases hw.2 with ⟨rfl, hc_2952⟩ | ⟨rfl, hc_2952⟩ | ⟨rfl, hc_2952⟩
  · skip
    have hG := hG.trans (lt_eq hru9.symm)
    have hG := hG.trans (if_pos rfl)
    refine lv_istore (lv' := [(5, .int 0), (0, .ref oM), (1, .int p0), (2, .int p1), (3, .int p2), (4, .int p3)]) hx hb dX7_speaks_15 hl (by decide) rfl (fun ls hl => ?_)
    refine lv_iload hx hb dX7_speaks_17 (lv_at hl 0 rfl) ?_
    refine lv_if_ne (tgt := 43) hx hb dX7_speaks_19 (by decide) (fun c => absurd c (by decide)) (fun _ => ?_)
    refine lv_iload hx hb dX7_speaks_22 (lv_at hl 5 rfl) ?_
    refine lv_if_eq (tgt := 36) hx hb dX7_speaks_24 (by decide) (fun c_2955 => ?_) (fun c_2955 => ?_)
    · skip
      have hG := hG.trans (if_pos c_2955)
      have gc_2955 := ti_eq c_2955 rfl kc_0
      refine lv_iload_n hx hb dX7_speaks_36 rfl (lv_at hl 2 rfl) ?_
      refine lv_iload_n hx hb dX7_speaks_37 rfl (lv_at hl 3 rfl) ?_
      refine lv_iload_n hx hb dX7_speaks_38 rfl (lv_at hl 4 rfl) ?_
      have hFc : ∀ q, va_A [] _ q → A q := fun q h => hA q (Nat.le_trans hS.1 (va_nilA h))
      refine va_calli (va_runS (As := [.int p0, .int p1, .int p2]) (rest := []) ⟨hx, hb, hml, hown, hts⟩ (tX7_speaksOf l dC dI _ p0 p1 p2 ) (va_cwS 3 hts (wd_S wd_1297 wd_1298 wd_5 (wd_c wd_1299)) rfl rfl rfl ds_yX7_speaksOf_3 ⟨Nat.le_of_ble_eq_true rfl, Nat.le_of_ble_eq_true rfl⟩) ⟨Pw.fb, fun U hU hW => Pn.to hK hE hS hA hU hW⟩ rfl rfl hl.1 rfl (lv_room (Nat.le_of_ble_eq_true rfl)) dX7_speaks_39 ⟨Nat.le_of_ble_eq_true rfl, Nat.le_of_ble_eq_true rfl⟩) hS (fun q _ h => hFc q h) hFc (fun r u t H locs ht hvm hw hB hz1 hk1 hS => ?_)
      obtain ⟨hP, hD, hK⟩ := Bw.same ht hvm hP hD hK hk1 hFc
      clear hz1 hk1 hvm ht hB
      have hq9 := hw.2
      have hw := hw.1
      obtain ⟨x_2956, rfl⟩ : ∃ z, z = r := ⟨_, rfl⟩
      have hq_x_2956 := hq9
      have hG := hG.trans (lt_eq hq_x_2956.symm)
      exact wq_i hx hb hr (cI x_2956) ⟨⟨trivial, trivial⟩, (cI_of x_2956)⟩ (fun t ht hW => ⟨x_2949, x_2950, (cI_tup hG), Bw.to hP hD hK ht hW⟩) hS dX7_speaks_42 hlocks
    · skip
      have hG := hG.trans (if_neg c_2955)
      have gc_2955 := ti_ne c_2955 rfl kc_0
      refine lv_iload_n hx hb dX7_speaks_27 rfl (lv_at hl 2 rfl) ?_
      refine lv_iload_n hx hb dX7_speaks_28 rfl (lv_at hl 4 rfl) ?_
      refine lv_iload_n hx hb dX7_speaks_29 rfl (lv_at hl 3 rfl) ?_
      have hFc : ∀ q, va_A [] _ q → A q := fun q h => hA q (Nat.le_trans hS.1 (va_nilA h))
      refine va_calli (va_runS (As := [.int p0, .int p2, .int p1]) (rest := []) ⟨hx, hb, hml, hown, hts⟩ (tX7_speaksOf l dC dI _ p0 p2 p1 ) (va_cwS 3 hts (wd_S wd_1297 wd_1298 wd_5 (wd_c wd_1299)) rfl rfl rfl ds_yX7_speaksOf_3 ⟨Nat.le_of_ble_eq_true rfl, Nat.le_of_ble_eq_true rfl⟩) ⟨Pw.fb, fun U hU hW => Pn.to hK hE hS hA hU hW⟩ rfl rfl hl.1 rfl (lv_room (Nat.le_of_ble_eq_true rfl)) dX7_speaks_30 ⟨Nat.le_of_ble_eq_true rfl, Nat.le_of_ble_eq_true rfl⟩) hS (fun q _ h => hFc q h) hFc (fun r u t H locs ht hvm hw hB hz1 hk1 hS => ?_)
      obtain ⟨hP, hD, hK⟩ := Bw.same ht hvm hP hD hK hk1 hFc
      clear hz1 hk1 hvm ht hB
      have hq9 := hw.2
      have hw := hw.1
      obtain ⟨x_2957, rfl⟩ : ∃ z, z = r := ⟨_, rfl⟩
      have hq_x_2957 := hq9
      have hG := hG.trans (lt_eq hq_x_2957.symm)
      refine lv_goto (tgt := 42) hx hb dX7_speaks_33 (by decide) ?_
      exact wq_i hx hb hr (cI x_2957) ⟨⟨trivial, trivial⟩, (cI_of x_2957)⟩ (fun t ht hW => ⟨x_2949, x_2950, (cI_tup hG), Bw.to hP hD hK ht hW⟩) hS dX7_speaks_42 hlocks
  · skip
    have hG := hG.trans (lt_eq hru9.symm)
    have hG := hG.trans (if_neg (by decide))
    have hG := hG.trans (if_pos rfl)
    refine lv_istore (lv' := [(5, .int 1), (0, .ref oM), (1, .int p0), (2, .int p1), (3, .int p2), (4, .int p3)]) hx hb dX7_speaks_15 hl (by decide) rfl (fun ls hl => ?_)
    refine lv_iload hx hb dX7_speaks_17 (lv_at hl 0 rfl) ?_
    refine lv_if_ne (tgt := 43) hx hb dX7_speaks_19 (by decide) (fun _ => ?_) (fun c => absurd c (by decide))
    refine lv_aload_n hx hb dX7_speaks_43 rfl (lv_at hl 1 rfl) ?_
    refine lv_iload hx hb dX7_speaks_44 (lv_at hl 0 rfl) ?_
    refine va_put (D := (dC, dI)) (ci := 7) (v := .int 1) (ty := .int) (C := RX7) (T := TX7) (N := 48) hx hb hts inX7 tyX7 tyX7_ok nmX7 hown hK hP hD hS 0 rfl rfl 11 (by decide) (hts _ wd_392) (fun _ h9 => h9) rfl (by decide +kernel) rfl rfl (Nat.le_of_ble_eq_true rfl) dX7_speaks_46 (fun H locs hP hD hS => ?_)
    obtain ⟨hP, hD⟩ := wl2 (ws' := [(oc7 oM x_2949 rM_tape iM_taped iM_size iM_at iM_end iM_token iM_whole iM_nameSize iM_fault iM_place 1 rM_letters iM_failed iM_hasCourt rM_r rM_fresh rM_told rM_read rM_st rM_undone rM_kept iM_undos iM_images rM_fresher iM_fresherSize iM_scale iM_night rM_heardRow rM_cutRow iM_breaths iM_cutMany iM_allBreaths rM_trial rM_words iM_fewestBreaths iM_orderMany iM_orderSum iM_leastOrder rM_often iM_setMany iM_someOf iM_allOf iM_allWeight iM_enoughWeight iM_worthSum iM_firstRest iM_leastDrawn), (arI rM_r kM_r 287 fM_r)]) hP hD rfl
    refine lv_bipush (v := (-100)) hx hb dX7_speaks_49 (by decide) ?_
    exact wq_i hx hb hr (cI (-100)) ⟨⟨trivial, trivial⟩, (cI_of (-100))⟩ (fun t ht hW => ⟨x_2949, 1, (cI_tup hG), Bw.to hP hD hK ht hW⟩) hS dX7_speaks_51 hlocks
  · skip
    have hG := hG.trans (lt_eq hru9.symm)
    have hG := hG.trans (if_neg (by decide))
    have hG := hG.trans (if_neg (by decide))
    refine lv_istore (lv' := [(5, .int 2), (0, .ref oM), (1, .int p0), (2, .int p1), (3, .int p2), (4, .int p3)]) hx hb dX7_speaks_15 hl (by decide) rfl (fun ls hl => ?_)
    refine lv_iload hx hb dX7_speaks_17 (lv_at hl 0 rfl) ?_
    refine lv_if_ne (tgt := 43) hx hb dX7_speaks_19 (by decide) (fun _ => ?_) (fun c => absurd c (by decide))
    refine lv_aload_n hx hb dX7_speaks_43 rfl (lv_at hl 1 rfl) ?_
    refine lv_iload hx hb dX7_speaks_44 (lv_at hl 0 rfl) ?_
    refine va_put (D := (dC, dI)) (ci := 7) (v := .int 2) (ty := .int) (C := RX7) (T := TX7) (N := 48) hx hb hts inX7 tyX7 tyX7_ok nmX7 hown hK hP hD hS 0 rfl rfl 11 (by decide) (hts _ wd_392) (fun _ h9 => h9) rfl (by decide +kernel) rfl rfl (Nat.le_of_ble_eq_true rfl) dX7_speaks_46 (fun H locs hP hD hS => ?_)
    obtain ⟨hP, hD⟩ := wl2 (ws' := [(oc7 oM x_2949 rM_tape iM_taped iM_size iM_at iM_end iM_token iM_whole iM_nameSize iM_fault iM_place 2 rM_letters iM_failed iM_hasCourt rM_r rM_fresh rM_told rM_read rM_st rM_undone rM_kept iM_undos iM_images rM_fresher iM_fresherSize iM_scale iM_night rM_heardRow rM_cutRow iM_breaths iM_cutMany iM_allBreaths rM_trial rM_words iM_fewestBreaths iM_orderMany iM_orderSum iM_leastOrder rM_often iM_setMany iM_someOf iM_allOf iM_allWeight iM_enoughWeight iM_worthSum iM_firstRest iM_leastDrawn), (arI rM_r kM_r 287 fM_r)]) hP hD rfl
    refine lv_bipush (v := (-100)) hx hb dX7_speaks_49 (by decide) ?_
    exact wq_i hx hb hr (cI (-100)) ⟨⟨trivial, trivial⟩, (cI_of (-100))⟩ (fun t ht hW => ⟨x_2949, 2, (cI_tup hG), Bw.to hP hD hK ht hW⟩) hS dX7_speaks_51 hlocks
set_option maxHeartbeats 4000000 in
set_option maxRecDepth 100000 in
theorem tX7_seekRests (l : Launch) (dC : Nat → ClassId) (dI : Nat → Nat → Nat) (sz : Nat) (oM : Nat) (iM_thrown : Int32) (rM_tape : Nat) (iM_taped : Int32) (iM_size : Int32) (iM_at : Int32) (iM_end : Int32) (iM_token : Int32) (iM_whole : Int32) (iM_nameSize : Int32) (iM_fault : Int32) (iM_place : Int32) (iM_trouble : Int32) (rM_letters : Nat) (iM_failed : Int32) (iM_hasCourt : Int32) (rM_r : Nat) (rM_fresh : Nat) (rM_told : Nat) (rM_read : Nat) (rM_st : Nat) (rM_undone : Nat) (rM_kept : Nat) (iM_undos : Int32) (iM_images : Int32) (rM_fresher : Nat) (iM_fresherSize : Int32) (iM_scale : Int32) (iM_night : Int32) (rM_heardRow : Nat) (rM_cutRow : Nat) (iM_breaths : Int32) (iM_cutMany : Int32) (iM_allBreaths : Int32) (rM_trial : Nat) (rM_words : Nat) (iM_fewestBreaths : Int32) (iM_orderMany : Int32) (iM_orderSum : Int32) (iM_leastOrder : Int32) (rM_often : Nat) (iM_setMany : Int32) (iM_someOf : Int32) (iM_allOf : Int32) (iM_allWeight : Int64) (iM_enoughWeight : Int64) (iM_worthSum : Int64) (iM_firstRest : Int32) (iM_leastDrawn : Int32) (p0 : Int32) (b_iM_taped : 0 ≤ iM_taped.toInt ∧ iM_taped.toInt ≤ 900) (b_iM_size : 0 ≤ iM_size.toInt ∧ iM_size.toInt ≤ 900) (b_iM_end : 0 ≤ iM_end.toInt ∧ iM_end.toInt ≤ 900) (b_iM_failed : 0 ≤ iM_failed.toInt ∧ iM_failed.toInt ≤ 1) (b_iM_hasCourt : 0 ≤ iM_hasCourt.toInt ∧ iM_hasCourt.toInt ≤ 1) (b_iM_undos : 0 ≤ iM_undos.toInt ∧ iM_undos.toInt ≤ 16) (b_iM_images : 0 ≤ iM_images.toInt ∧ iM_images.toInt ≤ 3) (b_iM_scale : 1 ≤ iM_scale.toInt ∧ iM_scale.toInt ≤ 1296) (b_iM_breaths : 0 ≤ iM_breaths.toInt ∧ iM_breaths.toInt ≤ 399) (b_iM_cutMany : 0 ≤ iM_cutMany.toInt ∧ iM_cutMany.toInt ≤ 399)  : Met l yX7_seekRests (Cond.code yX7_seekRests cX7_seekRests 6 (some .int) :: wG) ({ frames := 1, cells := 0, slots := 0, locals := 22 }) (va_Pc [.ref oM, .int p0] (Pw dC dI sz [(oc7 oM iM_thrown rM_tape iM_taped iM_size iM_at iM_end iM_token iM_whole iM_nameSize iM_fault iM_place iM_trouble rM_letters iM_failed iM_hasCourt rM_r rM_fresh rM_told rM_read rM_st rM_undone rM_kept iM_undos iM_images rM_fresher iM_fresherSize iM_scale iM_night rM_heardRow rM_cutRow iM_breaths iM_cutMany iM_allBreaths rM_trial rM_words iM_fewestBreaths iM_orderMany iM_orderSum iM_leastOrder rM_often iM_setMany iM_someOf iM_allOf iM_allWeight iM_enoughWeight iM_worthSum iM_firstRest iM_leastDrawn)] [])) (va_Qi (fun (r : Int32) (u : Nat) => (True ∧ True) ∧ r = Int32.ofNat u) (fun (u : Nat) (t : State) => ∃ (niM_firstRest : Int32), (PX7_seekRests p0 = (Int32.ofNat u, niM_firstRest)) ∧ Bw dC dI (va_A [(oc7 oM iM_thrown rM_tape iM_taped iM_size iM_at iM_end iM_token iM_whole iM_nameSize iM_fault iM_place iM_trouble rM_letters iM_failed iM_hasCourt rM_r rM_fresh rM_told rM_read rM_st rM_undone rM_kept iM_undos iM_images rM_fresher iM_fresherSize iM_scale iM_night rM_heardRow rM_cutRow iM_breaths iM_cutMany iM_allBreaths rM_trial rM_words iM_fewestBreaths iM_orderMany iM_orderSum iM_leastOrder rM_often iM_setMany iM_someOf iM_allOf iM_allWeight iM_enoughWeight iM_worthSum iM_firstRest iM_leastDrawn)] sz) [(oc7 oM iM_thrown rM_tape iM_taped iM_size iM_at iM_end iM_token iM_whole iM_nameSize iM_fault iM_place iM_trouble rM_letters iM_failed iM_hasCourt rM_r rM_fresh rM_told rM_read rM_st rM_undone rM_kept iM_undos iM_images rM_fresher iM_fresherSize iM_scale iM_night rM_heardRow rM_cutRow iM_breaths iM_cutMany iM_allBreaths rM_trial rM_words iM_fewestBreaths iM_orderMany iM_orderSum iM_leastOrder rM_often iM_setMany iM_someOf iM_allOf iM_allWeight iM_enoughWeight iM_worthSum niM_firstRest iM_leastDrawn)] [] t) (va_A [(oc7 oM iM_thrown rM_tape iM_taped iM_size iM_at iM_end iM_token iM_whole iM_nameSize iM_fault iM_place iM_trouble rM_letters iM_failed iM_hasCourt rM_r rM_fresh rM_told rM_read rM_st rM_undone rM_kept iM_undos iM_images rM_fresher iM_fresherSize iM_scale iM_night rM_heardRow rM_cutRow iM_breaths iM_cutMany iM_allBreaths rM_trial rM_words iM_fewestBreaths iM_orderMany iM_orderSum iM_leastOrder rM_often iM_setMany iM_someOf iM_allOf iM_allWeight iM_enoughWeight iM_worthSum iM_firstRest iM_leastDrawn)] sz)) 0 0 (va_A [(oc7 oM iM_thrown rM_tape iM_taped iM_size iM_at iM_end iM_token iM_whole iM_nameSize iM_fault iM_place iM_trouble rM_letters iM_failed iM_hasCourt rM_r rM_fresh rM_told rM_read rM_st rM_undone rM_kept iM_undos iM_images rM_fresher iM_fresherSize iM_scale iM_night rM_heardRow rM_cutRow iM_breaths iM_cutMany iM_allBreaths rM_trial rM_words iM_fewestBreaths iM_orderMany iM_orderSum iM_leastOrder rM_often iM_setMany iM_someOf iM_allOf iM_allWeight iM_enoughWeight iM_worthSum iM_firstRest iM_leastDrawn)] sz) := by
  refine Met.ofW (cc := cX7_seekRests) (maxL := 6) (ret := (some .int)) pnX7 rfl ?_
  intro p e s m args below meth c s₁ B hml hv
  obtain ⟨rfl, hsz, hP, hK, hD0, hE⟩ := hv
  have hx := B.exec
  have hb := B.bytes
  have hr := B.returns
  have hts : ∀ w ∈ wG, w.before ([.ref oM, .int p0] : List Value).toArray s = true := fun w h => atoms_spec (ws := Cond.code yX7_seekRests cX7_seekRests 6 (some .int) :: wG) B.pre w (List.mem_cons_of_mem _ h)
  have hown : s.vm.findClass RX7 = some m.cls := own_of B.named rfl
  have hlocks := B.notSynchronized
  subst hsz
  have hD := hD0.self (sz := s.heap.size)
  generalize hAe : va_A [(oc7 oM iM_thrown rM_tape iM_taped iM_size iM_at iM_end iM_token iM_whole iM_nameSize iM_fault iM_place iM_trouble rM_letters iM_failed iM_hasCourt rM_r rM_fresh rM_told rM_read rM_st rM_undone rM_kept iM_undos iM_images rM_fresher iM_fresherSize iM_scale iM_night rM_heardRow rM_cutRow iM_breaths iM_cutMany iM_allBreaths rM_trial rM_words iM_fewestBreaths iM_orderMany iM_orderSum iM_leastOrder rM_often iM_setMany iM_someOf iM_allOf iM_allWeight iM_enoughWeight iM_worthSum iM_firstRest iM_leastDrawn)] s.heap.size = A at hD hE ⊢
  have hA : ∀ q : Nat, s.heap.size ≤ q → A q := fun q h => by rw [← hAe]; exact Or.inr h
  have hS : va_S A s.heap s.heap [] := va_S.rf
  have hl := lv_entry ([.ref oM, .int p0]) (n := 6) (Nat.le_of_ble_eq_true rfl)
  rw [lg_entry_eq]
  generalize (lg_sl ([.ref oM, .int p0]) ++ List.replicate (6 - (lg_sl ([.ref oM, .int p0])).length) Slot.unset).toArray = ls at hl ⊢
  have hl : lv_has ls 6 [(0, .ref oM), (1, .int p0)] := hl
  have hG := PX7_seekRests_eq p0
  have rg_p0 := fb_rng p0
  refine lv_iconst (v := 0) hx hb dX7_seekRests_0 (by decide) ?_
  refine lv_istore_n (lv' := [(2, .int 0), (0, .ref oM), (1, .int p0)]) hx hb dX7_seekRests_1 rfl hl (by decide) rfl (fun ls hl => ?_)
  refine lv_aload_n hx hb dX7_seekRests_2 rfl (lv_at hl 1 rfl) ?_
  refine lv_bipush (v := (-2)) hx hb dX7_seekRests_3 (by decide) ?_
  refine va_put (D := (dC, dI)) (ci := 7) (v := .int (-2)) (ty := .int) (C := RX7) (T := TX7) (N := 48) hx hb hts inX7 tyX7 tyX7_ok nmX7 hown hK hP hD hS 0 rfl rfl 46 (by decide) (hts _ wd_1315) (fun _ h9 => h9) rfl (by decide +kernel) rfl rfl (Nat.le_of_ble_eq_true rfl) dX7_seekRests_5 (fun H locs hP hD hS => ?_)
  obtain ⟨hP, hD⟩ := wl2 (ws' := [(oc7 oM iM_thrown rM_tape iM_taped iM_size iM_at iM_end iM_token iM_whole iM_nameSize iM_fault iM_place iM_trouble rM_letters iM_failed iM_hasCourt rM_r rM_fresh rM_told rM_read rM_st rM_undone rM_kept iM_undos iM_images rM_fresher iM_fresherSize iM_scale iM_night rM_heardRow rM_cutRow iM_breaths iM_cutMany iM_allBreaths rM_trial rM_words iM_fewestBreaths iM_orderMany iM_orderSum iM_leastOrder rM_often iM_setMany iM_someOf iM_allOf iM_allWeight iM_enoughWeight iM_worthSum (-2) iM_leastDrawn)]) hP hD rfl
  refine lv_iconst (v := 0) hx hb dX7_seekRests_8 (by decide) ?_
  refine lv_istore_n (lv' := [(3, .int 0), (2, .int 0), (0, .ref oM), (1, .int p0)]) hx hb dX7_seekRests_9 rfl hl (by decide) rfl (fun ls hl => ?_)
  have hl := lv_sub hl (l' := [(3, .int 0), (2, .int 0), (0, .ref oM), (1, .int p0)]) [0, 1, 2, 3] rfl
  have key_n_3071 : ∀ (n_3071 : Nat) (z_3068 : Int32) (z_3069 : Int32) (z_3070 : Int32) (H : Heap) (locs : List Loc) (ls : Array Slot), (0 ≤ z_3068.toInt ∧ z_3068.toInt ≤ 2147483647) → (2147483647 - z_3068.toInt).toNat < n_3071 → (PX7_seekRests p0 = HX7_seekRests_0 p0 n_3071 z_3068 z_3069 z_3070) → va_P (dC, dI) vwCl [(oc7 oM iM_thrown rM_tape iM_taped iM_size iM_at iM_end iM_token iM_whole iM_nameSize iM_fault iM_place iM_trouble rM_letters iM_failed iM_hasCourt rM_r rM_fresh rM_told rM_read rM_st rM_undone rM_kept iM_undos iM_images rM_fresher iM_fresherSize iM_scale iM_night rM_heardRow rM_cutRow iM_breaths iM_cutMany iM_allBreaths rM_trial rM_words iM_fewestBreaths iM_orderMany iM_orderSum iM_leastOrder rM_often iM_setMany iM_someOf iM_allOf iM_allWeight iM_enoughWeight iM_worthSum z_3070 iM_leastDrawn)] H → va_D A [(oc7 oM iM_thrown rM_tape iM_taped iM_size iM_at iM_end iM_token iM_whole iM_nameSize iM_fault iM_place iM_trouble rM_letters iM_failed iM_hasCourt rM_r rM_fresh rM_told rM_read rM_st rM_undone rM_kept iM_undos iM_images rM_fresher iM_fresherSize iM_scale iM_night rM_heardRow rM_cutRow iM_breaths iM_cutMany iM_allBreaths rM_trial rM_words iM_fewestBreaths iM_orderMany iM_orderSum iM_leastOrder rM_often iM_setMany iM_someOf iM_allOf iM_allWeight iM_enoughWeight iM_worthSum z_3070 iM_leastDrawn)] → va_S A s.heap H locs → lv_has ls 6 [(3, .int z_3068), (2, .int z_3069), (0, .ref oM), (1, .int p0)] → W p l e (headSpec (Cond.code yX7_seekRests cX7_seekRests 6 (some .int) :: wG) ({ frames := 1, cells := 0, slots := 0, locals := 22 })).room s m ([.ref oM, .int p0] : List Value).toArray below meth c H locs 0 0 (MQ below (va_Qi (fun (r : Int32) (u : Nat) => (True ∧ True) ∧ r = Int32.ofNat u) (fun (u : Nat) (t : State) => ∃ (niM_firstRest : Int32), (PX7_seekRests p0 = (Int32.ofNat u, niM_firstRest)) ∧ Bw dC dI A [(oc7 oM iM_thrown rM_tape iM_taped iM_size iM_at iM_end iM_token iM_whole iM_nameSize iM_fault iM_place iM_trouble rM_letters iM_failed iM_hasCourt rM_r rM_fresh rM_told rM_read rM_st rM_undone rM_kept iM_undos iM_images rM_fresher iM_fresherSize iM_scale iM_night rM_heardRow rM_cutRow iM_breaths iM_cutMany iM_allBreaths rM_trial rM_words iM_fewestBreaths iM_orderMany iM_orderSum iM_leastOrder rM_often iM_setMany iM_someOf iM_allOf iM_allWeight iM_enoughWeight iM_worthSum niM_firstRest iM_leastDrawn)] [] t) A) ([.ref oM, .int p0] : List Value).toArray s 0 0 A) (F0 m 10 ls []) := by
    intro n_3071
    induction n_3071 with
    | zero => intro z_3068 z_3069 z_3070 H locs ls hi0_n_3071 hm; exact absurd hm (Nat.not_lt_zero _)
    | succ n_3071 ih_n_3071 =>
      intro z_3068 z_3069 z_3070 H locs ls hi0_n_3071 hm_n_3071 hG hP hD hS hl
      have hG := hG.trans (HX7_seekRests_0_eq _ _ _ _ _)
      have rg_z_3068 := fb_rng z_3068
      have rg_z_3069 := fb_rng z_3069
      have rg_z_3070 := fb_rng z_3070
      refine lv_iload_n hx hb dX7_seekRests_10 rfl (lv_at hl 0 rfl) ?_
      refine lv_iconst (v := 4) hx hb dX7_seekRests_11 (by decide) ?_
      refine lv_icmp_ge (tgt := 125) hx hb dX7_seekRests_12 (by decide) (fun c_3072 => ?_) (fun c_3072 => ?_)
      · skip
        have hG := hG.trans (if_pos c_3072)
        have gc_3072 := ti_le c_3072 kc_4 rfl
        refine lv_iload_n hx hb dX7_seekRests_125 rfl (lv_at hl 1 rfl) ?_
        exact wq_i hx hb hr (cI z_3069) ⟨⟨trivial, trivial⟩, (cI_of z_3069)⟩ (fun t ht hW => ⟨z_3070, (cI_tup hG), Bw.to hP hD hK ht hW⟩) hS dX7_seekRests_126 hlocks
      · skip
        have hG := hG.trans (if_neg c_3072)
        have gc_3072 := ti_nle c_3072 kc_4 rfl
        refine lv_iload_n hx hb dX7_seekRests_15 rfl (lv_at hl 0 rfl) ?_
        refine lv_iconst (v := 1) hx hb dX7_seekRests_16 (by decide) ?_
        refine lv_icmp_le (tgt := 24) hx hb dX7_seekRests_17 (by decide) (fun c_3073 => ?_) (fun c_3073 => ?_)
        · skip
          have hG := hG.trans (if_pos c_3073)
          have gc_3073 := ti_le c_3073 rfl kc_1
          refine lv_iconst (v := 0) hx hb dX7_seekRests_24 (by decide) ?_
          refine lv_istore (lv' := [(4, .int 0), (3, .int z_3068), (2, .int z_3069), (0, .ref oM), (1, .int p0)]) hx hb dX7_seekRests_25 hl (by decide) rfl (fun ls hl => ?_)
          refine lv_iload_n hx hb dX7_seekRests_27 rfl (lv_at hl 1 rfl) ?_
          refine lv_iconst (v := 2) hx hb dX7_seekRests_28 (by decide) ?_
          refine lv_irem hx hb dX7_seekRests_29 (by decide) ?_
          refine lv_topi (fun x_3074 ex_3074 => ?_)
          have hG := hG.trans (lt_eq ex_3074)
          have rg_x_3074 := fb_rng x_3074
          have qx_3074 := ti_rem ex_3074 rfl kc_2 hi0_n_3071.1 (by decide)
          have Qx_3074 := ti_remE ex_3074 rfl kc_2 hi0_n_3071.1 (by decide)
          refine lv_iconst (v := 1) hx hb dX7_seekRests_30 (by decide) ?_
          refine lv_icmp_ne (tgt := 38) hx hb dX7_seekRests_31 (by decide) (fun c_3075 => ?_) (fun c_3075 => ?_)
          · skip
            have hG := hG.trans (if_neg c_3075)
            have gc_3075 := ti_ne c_3075 rfl kc_1
            refine lv_iconst (v := 0) hx hb dX7_seekRests_38 (by decide) ?_
            refine lv_istore (lv' := [(5, .int 0), (4, .int 0), (3, .int z_3068), (2, .int z_3069), (0, .ref oM), (1, .int p0)]) hx hb dX7_seekRests_39 hl (by decide) rfl (fun ls hl => ?_)
            refine lv_iload_n hx hb dX7_seekRests_41 rfl (lv_at hl 5 rfl) ?_
            refine lv_iload hx hb dX7_seekRests_42 (lv_at hl 1 rfl) ?_
            refine lv_if_ne (tgt := 51) hx hb dX7_seekRests_44 (by decide) (fun c => absurd c (by decide)) (fun _ => ?_)
            refine lv_iconst (v := 1) hx hb dX7_seekRests_47 (by decide) ?_
            refine lv_goto (tgt := 52) hx hb dX7_seekRests_48 (by decide) ?_
            refine lv_iload hx hb dX7_seekRests_52 (lv_at hl 0 rfl) ?_
            have hFc : ∀ q, va_A [] _ q → A q := fun q h => hA q (Nat.le_trans hS.1 (va_nilA h))
            refine va_calli (va_runS (As := [.int p0, .int 1, .int 0]) (rest := []) ⟨hx, hb, hml, hown, hts⟩ (tX7_speaksOf l dC dI _ p0 1 0 ) (va_cwS 3 hts (wd_S wd_1297 wd_1298 wd_5 (wd_c wd_1299)) rfl rfl rfl ds_yX7_speaksOf_3 ⟨Nat.le_of_ble_eq_true rfl, Nat.le_of_ble_eq_true rfl⟩) ⟨Pw.fb, fun U hU hW => Pn.to hK hE hS hA hU hW⟩ rfl rfl hl.1 rfl (lv_room (Nat.le_of_ble_eq_true rfl)) dX7_seekRests_54 ⟨Nat.le_of_ble_eq_true rfl, Nat.le_of_ble_eq_true rfl⟩) hS (fun q _ h => hFc q h) hFc (fun r u t H locs ht hvm hw hB hz1 hk1 hS => ?_)
            obtain ⟨hP, hD, hK⟩ := Bw.same ht hvm hP hD hK hk1 hFc
            clear hz1 hk1 hvm ht hB
            have hq9 := hw.2
            have hw := hw.1
            obtain ⟨x_3077, rfl⟩ : ∃ z, z = r := ⟨_, rfl⟩
            have hq_x_3077 := hq9
            have hG := hG.trans (lt_eq hq_x_3077.symm)
            have rg_x_3077 := fb_rng x_3077
            refine lv_iload_n hx hb dX7_seekRests_57 rfl (lv_at hl 5 rfl) ?_
            refine lv_iload hx hb dX7_seekRests_58 (lv_at hl 1 rfl) ?_
            refine lv_iload hx hb dX7_seekRests_60 (lv_at hl 0 rfl) ?_
            have hFc : ∀ q, va_A [] _ q → A q := fun q h => hA q (Nat.le_trans hS.1 (va_nilA h))
            refine va_calli (va_runS (As := [.int p0, .int 0, .int 0]) (rest := [.int x_3077]) ⟨hx, hb, hml, hown, hts⟩ (tX7_speaksOf l dC dI _ p0 0 0 ) (va_cwS 3 hts (wd_S wd_1297 wd_1298 wd_5 (wd_c wd_1299)) rfl rfl rfl ds_yX7_speaksOf_3 ⟨Nat.le_of_ble_eq_true rfl, Nat.le_of_ble_eq_true rfl⟩) ⟨Pw.fb, fun U hU hW => Pn.to hK hE hS hA hU hW⟩ rfl rfl hl.1 rfl (lv_room (Nat.le_of_ble_eq_true rfl)) dX7_seekRests_62 ⟨Nat.le_of_ble_eq_true rfl, Nat.le_of_ble_eq_true rfl⟩) hS (fun q _ h => hFc q h) hFc (fun r u t H locs ht hvm hw hB hz1 hk1 hS => ?_)
            obtain ⟨hP, hD, hK⟩ := Bw.same ht hvm hP hD hK hk1 hFc
            clear hz1 hk1 hvm ht hB
            have hq9 := hw.2
            have hw := hw.1
            obtain ⟨x_3078, rfl⟩ : ∃ z, z = r := ⟨_, rfl⟩
            have hq_x_3078 := hq9
            have hG := hG.trans (lt_eq hq_x_3078.symm)
            have rg_x_3078 := fb_rng x_3078
            refine lv_icmp_gt (tgt := 119) hx hb dX7_seekRests_65 (by decide) (fun c_3079 => ?_) (fun c_3079 => ?_)
            · skip
              have hG := hG.trans (if_pos c_3079)
              have gc_3079 := ti_lt c_3079 rfl rfl
              obtain ⟨x_3080, ex_3080⟩ : ∃ z : Int32, z = z_3068 + Int32.ofInt 1 := ⟨_, rfl⟩
              have hG := hG.trans (lt_eq ex_3080)
              have vx_3080 : x_3080.toInt = z_3068.toInt + 1 := ti_add (y := 1) ex_3080 rfl kc_1 (om_4e4fce7e hi0_n_3071.1) (om_71ed274a gc_3072)
              refine lv_iinc (v := x_3080) (lv' := [(3, .int x_3080), (5, .int 0), (4, .int 0), (2, .int z_3069), (0, .ref oM), (1, .int p0)]) hx hb dX7_seekRests_119 hl (k := 2) rfl ex_3080.symm (by decide) rfl (fun ls hl => ?_)
              refine lv_goto (tgt := 10) hx hb dX7_seekRests_122 (by decide) ?_
              exact ih_n_3071 x_3080 z_3069 z_3070 _ _ _  ⟨(om_83b90de5 hi0_n_3071.1 vx_3080), (om_d99ff3f9 gc_3072 vx_3080)⟩ (ms_lt hm_n_3071 (om_b9393183 vx_3080) (om_50af1673 gc_3072)) hG hP hD hS (lv_sub hl [0, 3, 4, 5] rfl)
            · skip
              have hG := hG.trans (if_neg c_3079)
              have gc_3079 := ti_nlt c_3079 rfl rfl
              refine lv_iload_n hx hb dX7_seekRests_68 rfl (lv_at hl 5 rfl) ?_
              refine lv_iload hx hb dX7_seekRests_69 (lv_at hl 0 rfl) ?_
              refine lv_if_ne (tgt := 78) hx hb dX7_seekRests_71 (by decide) (fun c => absurd c (by decide)) (fun _ => ?_)
              refine lv_iconst (v := 1) hx hb dX7_seekRests_74 (by decide) ?_
              refine lv_goto (tgt := 79) hx hb dX7_seekRests_75 (by decide) ?_
              refine lv_iload hx hb dX7_seekRests_79 (lv_at hl 1 rfl) ?_
              have hFc : ∀ q, va_A [] _ q → A q := fun q h => hA q (Nat.le_trans hS.1 (va_nilA h))
              refine va_calli (va_runS (As := [.int p0, .int 1, .int 0]) (rest := []) ⟨hx, hb, hml, hown, hts⟩ (tX7_speaksOf l dC dI _ p0 1 0 ) (va_cwS 3 hts (wd_S wd_1297 wd_1298 wd_5 (wd_c wd_1299)) rfl rfl rfl ds_yX7_speaksOf_3 ⟨Nat.le_of_ble_eq_true rfl, Nat.le_of_ble_eq_true rfl⟩) ⟨Pw.fb, fun U hU hW => Pn.to hK hE hS hA hU hW⟩ rfl rfl hl.1 rfl (lv_room (Nat.le_of_ble_eq_true rfl)) dX7_seekRests_81 ⟨Nat.le_of_ble_eq_true rfl, Nat.le_of_ble_eq_true rfl⟩) hS (fun q _ h => hFc q h) hFc (fun r u t H locs ht hvm hw hB hz1 hk1 hS => ?_)
              obtain ⟨hP, hD, hK⟩ := Bw.same ht hvm hP hD hK hk1 hFc
              clear hz1 hk1 hvm ht hB
              have hq9 := hw.2
              have hw := hw.1
              obtain ⟨x_3082, rfl⟩ : ∃ z, z = r := ⟨_, rfl⟩
              have hq_x_3082 := hq9
              have hG := hG.trans (lt_eq hq_x_3082.symm)
              have rg_x_3082 := fb_rng x_3082
              refine lv_iload_n hx hb dX7_seekRests_84 rfl (lv_at hl 5 rfl) ?_
              refine lv_iload hx hb dX7_seekRests_85 (lv_at hl 0 rfl) ?_
              refine lv_iload hx hb dX7_seekRests_87 (lv_at hl 1 rfl) ?_
              have hFc : ∀ q, va_A [] _ q → A q := fun q h => hA q (Nat.le_trans hS.1 (va_nilA h))
              refine va_calli (va_runS (As := [.int p0, .int 0, .int 0]) (rest := [.int x_3082]) ⟨hx, hb, hml, hown, hts⟩ (tX7_speaksOf l dC dI _ p0 0 0 ) (va_cwS 3 hts (wd_S wd_1297 wd_1298 wd_5 (wd_c wd_1299)) rfl rfl rfl ds_yX7_speaksOf_3 ⟨Nat.le_of_ble_eq_true rfl, Nat.le_of_ble_eq_true rfl⟩) ⟨Pw.fb, fun U hU hW => Pn.to hK hE hS hA hU hW⟩ rfl rfl hl.1 rfl (lv_room (Nat.le_of_ble_eq_true rfl)) dX7_seekRests_89 ⟨Nat.le_of_ble_eq_true rfl, Nat.le_of_ble_eq_true rfl⟩) hS (fun q _ h => hFc q h) hFc (fun r u t H locs ht hvm hw hB hz1 hk1 hS => ?_)
              obtain ⟨hP, hD, hK⟩ := Bw.same ht hvm hP hD hK hk1 hFc
              clear hz1 hk1 hvm ht hB
              have hq9 := hw.2
              have hw := hw.1
              obtain ⟨x_3083, rfl⟩ : ∃ z, z = r := ⟨_, rfl⟩
              have hq_x_3083 := hq9
              have hG := hG.trans (lt_eq hq_x_3083.symm)
              have rg_x_3083 := fb_rng x_3083
              refine lv_icmp_le (tgt := 98) hx hb dX7_seekRests_92 (by decide) (fun c_3084 => ?_) (fun c_3084 => ?_)
              · skip
                have hG := hG.trans (if_pos c_3084)
                have gc_3084 := ti_le c_3084 rfl rfl
                refine lv_iload_n hx hb dX7_seekRests_98 rfl (lv_at hl 3 rfl) ?_
                refine lv_if_ne (tgt := 116) hx hb dX7_seekRests_99 (by decide) (fun c_3085 => ?_) (fun c_3085 => ?_)
                · skip
                  have hG := hG.trans (if_neg c_3085)
                  have gc_3085 := ti_ne c_3085 rfl kc_0
                  obtain ⟨x_3086, ex_3086⟩ : ∃ z : Int32, z = z_3069 + Int32.ofInt 1 := ⟨_, rfl⟩
                  have hG := hG.trans (lt_eq ex_3086)
                  have rg_x_3086 := fb_rng x_3086
                  refine lv_iinc (v := x_3086) (lv' := [(2, .int x_3086), (5, .int 0), (4, .int 0), (3, .int z_3068), (0, .ref oM), (1, .int p0)]) hx hb dX7_seekRests_116 hl (k := 3) rfl ex_3086.symm (by decide) rfl (fun ls hl => ?_)
                  obtain ⟨x_3087, ex_3087⟩ : ∃ z : Int32, z = z_3068 + Int32.ofInt 1 := ⟨_, rfl⟩
                  have hG := hG.trans (lt_eq ex_3087)
                  have vx_3087 : x_3087.toInt = z_3068.toInt + 1 := ti_add (y := 1) ex_3087 rfl kc_1 (om_4e4fce7e hi0_n_3071.1) (om_71ed274a gc_3072)
                  refine lv_iinc (v := x_3087) (lv' := [(3, .int x_3087), (2, .int x_3086), (5, .int 0), (4, .int 0), (0, .ref oM), (1, .int p0)]) hx hb dX7_seekRests_119 hl (k := 3) rfl ex_3087.symm (by decide) rfl (fun ls hl => ?_)
                  refine lv_goto (tgt := 10) hx hb dX7_seekRests_122 (by decide) ?_
                  exact ih_n_3071 x_3087 x_3086 z_3070 _ _ _  ⟨(om_83b90de5 hi0_n_3071.1 vx_3087), (om_d99ff3f9 gc_3072 vx_3087)⟩ (ms_lt hm_n_3071 (om_b9393183 vx_3087) (om_50af1673 gc_3072)) hG hP hD hS (lv_sub hl [0, 1, 4, 5] rfl)
                · skip
                  have hG := hG.trans (if_pos c_3085)
                  have gc_3085 := ti_eq c_3085 rfl kc_0
                  refine lv_aload_n hx hb dX7_seekRests_102 rfl (lv_at hl 4 rfl) ?_
                  refine lv_bipush (v := 10) hx hb dX7_seekRests_103 (by decide) ?_
                  refine lv_iload_n hx hb dX7_seekRests_105 rfl (lv_at hl 2 rfl) ?_
                  refine lv_iconst (v := 2) hx hb dX7_seekRests_106 (by decide) ?_
                  refine lv_idiv hx hb dX7_seekRests_107 (by decide) ?_
                  refine lv_topi (fun x_3088 ex_3088 => ?_)
                  have hG := hG.trans (lt_eq ex_3088)
                  have rg_x_3088 := fb_rng x_3088
                  have qx_3088 := ti_div ex_3088 rfl kc_2 hi0_n_3071.1 (by decide)
                  have Qx_3088 := ti_divE ex_3088 rfl kc_2 hi0_n_3071.1 (by decide)
                  refine lv_imul hx hb dX7_seekRests_108 ?_
                  refine lv_topi (fun x_3089 ex_3089 => ?_)
                  have hG := hG.trans (lt_eq ex_3089)
                  have vx_3089 : x_3089.toInt = 10 * x_3088.toInt := ti_mul ex_3089 kc_10 rfl (om_01615985 qx_3088.1) (om_e51e3a41 gc_3072 qx_3088.2)
                  refine lv_iload_n hx hb dX7_seekRests_109 rfl (lv_at hl 2 rfl) ?_
                  refine lv_iconst (v := 2) hx hb dX7_seekRests_110 (by decide) ?_
                  refine lv_irem hx hb dX7_seekRests_111 (by decide) ?_
                  refine lv_topi (fun x_3090 ex_3090 => ?_)
                  have hG := hG.trans (lt_eq ex_3090)
                  have rg_x_3090 := fb_rng x_3090
                  have qx_3090 := ti_rem ex_3090 rfl kc_2 hi0_n_3071.1 (by decide)
                  have Qx_3090 := ti_remE ex_3090 rfl kc_2 hi0_n_3071.1 (by decide)
                  refine lv_iadd hx hb dX7_seekRests_112 ?_
                  refine lv_topi (fun x_3091 ex_3091 => ?_)
                  have hG := hG.trans (lt_eq ex_3091)
                  have vx_3091 : x_3091.toInt = 10 * x_3088.toInt + x_3090.toInt := om_eaf66da5 (ti_add ex_3091 vx_3089 rfl (om_793baeb6 qx_3088.1 qx_3090.1) (om_ffe800b0 gc_3072 qx_3088.2 qx_3090.2.1))
                  refine va_put (D := (dC, dI)) (ci := 7) (v := .int x_3091) (ty := .int) (C := RX7) (T := TX7) (N := 48) hx hb hts inX7 tyX7 tyX7_ok nmX7 hown hK hP hD hS 0 rfl rfl 46 (by decide) (hts _ wd_1315) (fun _ h9 => h9) rfl (by decide +kernel) rfl rfl (Nat.le_of_ble_eq_true rfl) dX7_seekRests_113 (fun H locs hP hD hS => ?_)
                  obtain ⟨hP, hD⟩ := wl2 (ws' := [(oc7 oM iM_thrown rM_tape iM_taped iM_size iM_at iM_end iM_token iM_whole iM_nameSize iM_fault iM_place iM_trouble rM_letters iM_failed iM_hasCourt rM_r rM_fresh rM_told rM_read rM_st rM_undone rM_kept iM_undos iM_images rM_fresher iM_fresherSize iM_scale iM_night rM_heardRow rM_cutRow iM_breaths iM_cutMany iM_allBreaths rM_trial rM_words iM_fewestBreaths iM_orderMany iM_orderSum iM_leastOrder rM_often iM_setMany iM_someOf iM_allOf iM_allWeight iM_enoughWeight iM_worthSum x_3091 iM_leastDrawn)]) hP hD rfl
                  obtain ⟨x_3092, ex_3092⟩ : ∃ z : Int32, z = z_3069 + Int32.ofInt 1 := ⟨_, rfl⟩
                  have hG := hG.trans (lt_eq ex_3092)
                  have vx_3092 : x_3092.toInt = z_3069.toInt + 1 := ti_add (y := 1) ex_3092 rfl kc_1 (om_3da4737a gc_3085) (om_f4fb5b9a gc_3085)
                  refine lv_iinc (v := x_3092) (lv' := [(2, .int x_3092), (5, .int 0), (4, .int 0), (3, .int z_3068), (0, .ref oM), (1, .int p0)]) hx hb dX7_seekRests_116 hl (k := 3) rfl ex_3092.symm (by decide) rfl (fun ls hl => ?_)
                  obtain ⟨x_3093, ex_3093⟩ : ∃ z : Int32, z = z_3068 + Int32.ofInt 1 := ⟨_, rfl⟩
                  have hG := hG.trans (lt_eq ex_3093)
                  have vx_3093 : x_3093.toInt = z_3068.toInt + 1 := ti_add (y := 1) ex_3093 rfl kc_1 (om_4e4fce7e hi0_n_3071.1) (om_71ed274a gc_3072)
                  refine lv_iinc (v := x_3093) (lv' := [(3, .int x_3093), (2, .int x_3092), (5, .int 0), (4, .int 0), (0, .ref oM), (1, .int p0)]) hx hb dX7_seekRests_119 hl (k := 3) rfl ex_3093.symm (by decide) rfl (fun ls hl => ?_)
                  refine lv_goto (tgt := 10) hx hb dX7_seekRests_122 (by decide) ?_
                  exact ih_n_3071 x_3093 x_3092 x_3091 _ _ _  ⟨(om_83b90de5 hi0_n_3071.1 vx_3093), (om_d99ff3f9 gc_3072 vx_3093)⟩ (ms_lt hm_n_3071 (om_b9393183 vx_3093) (om_50af1673 gc_3072)) hG hP hD hS (lv_sub hl [0, 1, 4, 5] rfl)
              · skip
                have hG := hG.trans (if_neg c_3084)
                have gc_3084 := ti_nle c_3084 rfl rfl
                refine lv_goto (tgt := 119) hx hb dX7_seekRests_95 (by decide) ?_
                obtain ⟨x_3094, ex_3094⟩ : ∃ z : Int32, z = z_3068 + Int32.ofInt 1 := ⟨_, rfl⟩
                have hG := hG.trans (lt_eq ex_3094)
                have vx_3094 : x_3094.toInt = z_3068.toInt + 1 := ti_add (y := 1) ex_3094 rfl kc_1 (om_4e4fce7e hi0_n_3071.1) (om_71ed274a gc_3072)
                refine lv_iinc (v := x_3094) (lv' := [(3, .int x_3094), (5, .int 0), (4, .int 0), (2, .int z_3069), (0, .ref oM), (1, .int p0)]) hx hb dX7_seekRests_119 hl (k := 2) rfl ex_3094.symm (by decide) rfl (fun ls hl => ?_)
                refine lv_goto (tgt := 10) hx hb dX7_seekRests_122 (by decide) ?_
                exact ih_n_3071 x_3094 z_3069 z_3070 _ _ _  ⟨(om_83b90de5 hi0_n_3071.1 vx_3094), (om_d99ff3f9 gc_3072 vx_3094)⟩ (ms_lt hm_n_3071 (om_b9393183 vx_3094) (om_50af1673 gc_3072)) hG hP hD hS (lv_sub hl [0, 3, 4, 5] rfl)
          · skip
            have hG := hG.trans (if_pos c_3075)
            have gc_3075 := ti_eq c_3075 rfl kc_1
            refine lv_iconst (v := 1) hx hb dX7_seekRests_34 (by decide) ?_
            refine lv_goto (tgt := 39) hx hb dX7_seekRests_35 (by decide) ?_
            refine lv_istore (lv' := [(5, .int 1), (4, .int 0), (3, .int z_3068), (2, .int z_3069), (0, .ref oM), (1, .int p0)]) hx hb dX7_seekRests_39 hl (by decide) rfl (fun ls hl => ?_)
            refine lv_iload_n hx hb dX7_seekRests_41 rfl (lv_at hl 5 rfl) ?_
            refine lv_iload hx hb dX7_seekRests_42 (lv_at hl 1 rfl) ?_
            refine lv_if_ne (tgt := 51) hx hb dX7_seekRests_44 (by decide) (fun c => absurd c (by decide)) (fun _ => ?_)
            refine lv_iconst (v := 1) hx hb dX7_seekRests_47 (by decide) ?_
            refine lv_goto (tgt := 52) hx hb dX7_seekRests_48 (by decide) ?_
            refine lv_iload hx hb dX7_seekRests_52 (lv_at hl 0 rfl) ?_
            have hFc : ∀ q, va_A [] _ q → A q := fun q h => hA q (Nat.le_trans hS.1 (va_nilA h))
            refine va_calli (va_runS (As := [.int p0, .int 1, .int 1]) (rest := []) ⟨hx, hb, hml, hown, hts⟩ (tX7_speaksOf l dC dI _ p0 1 1 ) (va_cwS 3 hts (wd_S wd_1297 wd_1298 wd_5 (wd_c wd_1299)) rfl rfl rfl ds_yX7_speaksOf_3 ⟨Nat.le_of_ble_eq_true rfl, Nat.le_of_ble_eq_true rfl⟩) ⟨Pw.fb, fun U hU hW => Pn.to hK hE hS hA hU hW⟩ rfl rfl hl.1 rfl (lv_room (Nat.le_of_ble_eq_true rfl)) dX7_seekRests_54 ⟨Nat.le_of_ble_eq_true rfl, Nat.le_of_ble_eq_true rfl⟩) hS (fun q _ h => hFc q h) hFc (fun r u t H locs ht hvm hw hB hz1 hk1 hS => ?_)
            obtain ⟨hP, hD, hK⟩ := Bw.same ht hvm hP hD hK hk1 hFc
            clear hz1 hk1 hvm ht hB
            have hq9 := hw.2
            have hw := hw.1
            obtain ⟨x_3096, rfl⟩ : ∃ z, z = r := ⟨_, rfl⟩
            have hq_x_3096 := hq9
            have hG := hG.trans (lt_eq hq_x_3096.symm)
            have rg_x_3096 := fb_rng x_3096
            refine lv_iload_n hx hb dX7_seekRests_57 rfl (lv_at hl 5 rfl) ?_
            refine lv_iload hx hb dX7_seekRests_58 (lv_at hl 1 rfl) ?_
            refine lv_iload hx hb dX7_seekRests_60 (lv_at hl 0 rfl) ?_
            have hFc : ∀ q, va_A [] _ q → A q := fun q h => hA q (Nat.le_trans hS.1 (va_nilA h))
            refine va_calli (va_runS (As := [.int p0, .int 0, .int 1]) (rest := [.int x_3096]) ⟨hx, hb, hml, hown, hts⟩ (tX7_speaksOf l dC dI _ p0 0 1 ) (va_cwS 3 hts (wd_S wd_1297 wd_1298 wd_5 (wd_c wd_1299)) rfl rfl rfl ds_yX7_speaksOf_3 ⟨Nat.le_of_ble_eq_true rfl, Nat.le_of_ble_eq_true rfl⟩) ⟨Pw.fb, fun U hU hW => Pn.to hK hE hS hA hU hW⟩ rfl rfl hl.1 rfl (lv_room (Nat.le_of_ble_eq_true rfl)) dX7_seekRests_62 ⟨Nat.le_of_ble_eq_true rfl, Nat.le_of_ble_eq_true rfl⟩) hS (fun q _ h => hFc q h) hFc (fun r u t H locs ht hvm hw hB hz1 hk1 hS => ?_)
            obtain ⟨hP, hD, hK⟩ := Bw.same ht hvm hP hD hK hk1 hFc
            clear hz1 hk1 hvm ht hB
            have hq9 := hw.2
            have hw := hw.1
            obtain ⟨x_3097, rfl⟩ : ∃ z, z = r := ⟨_, rfl⟩
            have hq_x_3097 := hq9
            have hG := hG.trans (lt_eq hq_x_3097.symm)
            have rg_x_3097 := fb_rng x_3097
            refine lv_icmp_gt (tgt := 119) hx hb dX7_seekRests_65 (by decide) (fun c_3098 => ?_) (fun c_3098 => ?_)
            · skip
              have hG := hG.trans (if_pos c_3098)
              have gc_3098 := ti_lt c_3098 rfl rfl
              obtain ⟨x_3099, ex_3099⟩ : ∃ z : Int32, z = z_3068 + Int32.ofInt 1 := ⟨_, rfl⟩
              have hG := hG.trans (lt_eq ex_3099)
              have vx_3099 : x_3099.toInt = z_3068.toInt + 1 := ti_add (y := 1) ex_3099 rfl kc_1 (om_4e4fce7e hi0_n_3071.1) (om_71ed274a gc_3072)
              refine lv_iinc (v := x_3099) (lv' := [(3, .int x_3099), (5, .int 1), (4, .int 0), (2, .int z_3069), (0, .ref oM), (1, .int p0)]) hx hb dX7_seekRests_119 hl (k := 2) rfl ex_3099.symm (by decide) rfl (fun ls hl => ?_)
              refine lv_goto (tgt := 10) hx hb dX7_seekRests_122 (by decide) ?_
              exact ih_n_3071 x_3099 z_3069 z_3070 _ _ _  ⟨(om_83b90de5 hi0_n_3071.1 vx_3099), (om_d99ff3f9 gc_3072 vx_3099)⟩ (ms_lt hm_n_3071 (om_b9393183 vx_3099) (om_50af1673 gc_3072)) hG hP hD hS (lv_sub hl [0, 3, 4, 5] rfl)
            · skip
              have hG := hG.trans (if_neg c_3098)
              have gc_3098 := ti_nlt c_3098 rfl rfl
              refine lv_iload_n hx hb dX7_seekRests_68 rfl (lv_at hl 5 rfl) ?_
              refine lv_iload hx hb dX7_seekRests_69 (lv_at hl 0 rfl) ?_
              refine lv_if_ne (tgt := 78) hx hb dX7_seekRests_71 (by decide) (fun _ => ?_) (fun c => absurd c (by decide))
              refine lv_iconst (v := 0) hx hb dX7_seekRests_78 (by decide) ?_
              refine lv_iload hx hb dX7_seekRests_79 (lv_at hl 1 rfl) ?_
              have hFc : ∀ q, va_A [] _ q → A q := fun q h => hA q (Nat.le_trans hS.1 (va_nilA h))
              refine va_calli (va_runS (As := [.int p0, .int 0, .int 0]) (rest := []) ⟨hx, hb, hml, hown, hts⟩ (tX7_speaksOf l dC dI _ p0 0 0 ) (va_cwS 3 hts (wd_S wd_1297 wd_1298 wd_5 (wd_c wd_1299)) rfl rfl rfl ds_yX7_speaksOf_3 ⟨Nat.le_of_ble_eq_true rfl, Nat.le_of_ble_eq_true rfl⟩) ⟨Pw.fb, fun U hU hW => Pn.to hK hE hS hA hU hW⟩ rfl rfl hl.1 rfl (lv_room (Nat.le_of_ble_eq_true rfl)) dX7_seekRests_81 ⟨Nat.le_of_ble_eq_true rfl, Nat.le_of_ble_eq_true rfl⟩) hS (fun q _ h => hFc q h) hFc (fun r u t H locs ht hvm hw hB hz1 hk1 hS => ?_)
              obtain ⟨hP, hD, hK⟩ := Bw.same ht hvm hP hD hK hk1 hFc
              clear hz1 hk1 hvm ht hB
              have hq9 := hw.2
              have hw := hw.1
              obtain ⟨x_3101, rfl⟩ : ∃ z, z = r := ⟨_, rfl⟩
              have hq_x_3101 := hq9
              have hG := hG.trans (lt_eq hq_x_3101.symm)
              have rg_x_3101 := fb_rng x_3101
              refine lv_iload_n hx hb dX7_seekRests_84 rfl (lv_at hl 5 rfl) ?_
              refine lv_iload hx hb dX7_seekRests_85 (lv_at hl 0 rfl) ?_
              refine lv_iload hx hb dX7_seekRests_87 (lv_at hl 1 rfl) ?_
              have hFc : ∀ q, va_A [] _ q → A q := fun q h => hA q (Nat.le_trans hS.1 (va_nilA h))
              refine va_calli (va_runS (As := [.int p0, .int 1, .int 0]) (rest := [.int x_3101]) ⟨hx, hb, hml, hown, hts⟩ (tX7_speaksOf l dC dI _ p0 1 0 ) (va_cwS 3 hts (wd_S wd_1297 wd_1298 wd_5 (wd_c wd_1299)) rfl rfl rfl ds_yX7_speaksOf_3 ⟨Nat.le_of_ble_eq_true rfl, Nat.le_of_ble_eq_true rfl⟩) ⟨Pw.fb, fun U hU hW => Pn.to hK hE hS hA hU hW⟩ rfl rfl hl.1 rfl (lv_room (Nat.le_of_ble_eq_true rfl)) dX7_seekRests_89 ⟨Nat.le_of_ble_eq_true rfl, Nat.le_of_ble_eq_true rfl⟩) hS (fun q _ h => hFc q h) hFc (fun r u t H locs ht hvm hw hB hz1 hk1 hS => ?_)
              obtain ⟨hP, hD, hK⟩ := Bw.same ht hvm hP hD hK hk1 hFc
              clear hz1 hk1 hvm ht hB
              have hq9 := hw.2
              have hw := hw.1
              obtain ⟨x_3102, rfl⟩ : ∃ z, z = r := ⟨_, rfl⟩
              have hq_x_3102 := hq9
              have hG := hG.trans (lt_eq hq_x_3102.symm)
              have rg_x_3102 := fb_rng x_3102
              refine lv_icmp_le (tgt := 98) hx hb dX7_seekRests_92 (by decide) (fun c_3103 => ?_) (fun c_3103 => ?_)
              · skip
                have hG := hG.trans (if_pos c_3103)
                have gc_3103 := ti_le c_3103 rfl rfl
                refine lv_iload_n hx hb dX7_seekRests_98 rfl (lv_at hl 3 rfl) ?_
                refine lv_if_ne (tgt := 116) hx hb dX7_seekRests_99 (by decide) (fun c_3104 => ?_) (fun c_3104 => ?_)
                · skip
                  have hG := hG.trans (if_neg c_3104)
                  have gc_3104 := ti_ne c_3104 rfl kc_0
                  obtain ⟨x_3105, ex_3105⟩ : ∃ z : Int32, z = z_3069 + Int32.ofInt 1 := ⟨_, rfl⟩
                  have hG := hG.trans (lt_eq ex_3105)
                  have rg_x_3105 := fb_rng x_3105
                  refine lv_iinc (v := x_3105) (lv' := [(2, .int x_3105), (5, .int 1), (4, .int 0), (3, .int z_3068), (0, .ref oM), (1, .int p0)]) hx hb dX7_seekRests_116 hl (k := 3) rfl ex_3105.symm (by decide) rfl (fun ls hl => ?_)
                  obtain ⟨x_3106, ex_3106⟩ : ∃ z : Int32, z = z_3068 + Int32.ofInt 1 := ⟨_, rfl⟩
                  have hG := hG.trans (lt_eq ex_3106)
                  have vx_3106 : x_3106.toInt = z_3068.toInt + 1 := ti_add (y := 1) ex_3106 rfl kc_1 (om_4e4fce7e hi0_n_3071.1) (om_71ed274a gc_3072)
                  refine lv_iinc (v := x_3106) (lv' := [(3, .int x_3106), (2, .int x_3105), (5, .int 1), (4, .int 0), (0, .ref oM), (1, .int p0)]) hx hb dX7_seekRests_119 hl (k := 3) rfl ex_3106.symm (by decide) rfl (fun ls hl => ?_)
                  refine lv_goto (tgt := 10) hx hb dX7_seekRests_122 (by decide) ?_
                  exact ih_n_3071 x_3106 x_3105 z_3070 _ _ _  ⟨(om_83b90de5 hi0_n_3071.1 vx_3106), (om_d99ff3f9 gc_3072 vx_3106)⟩ (ms_lt hm_n_3071 (om_b9393183 vx_3106) (om_50af1673 gc_3072)) hG hP hD hS (lv_sub hl [0, 1, 4, 5] rfl)
                · skip
                  have hG := hG.trans (if_pos c_3104)
                  have gc_3104 := ti_eq c_3104 rfl kc_0
                  refine lv_aload_n hx hb dX7_seekRests_102 rfl (lv_at hl 4 rfl) ?_
                  refine lv_bipush (v := 10) hx hb dX7_seekRests_103 (by decide) ?_
                  refine lv_iload_n hx hb dX7_seekRests_105 rfl (lv_at hl 2 rfl) ?_
                  refine lv_iconst (v := 2) hx hb dX7_seekRests_106 (by decide) ?_
                  refine lv_idiv hx hb dX7_seekRests_107 (by decide) ?_
                  refine lv_topi (fun x_3107 ex_3107 => ?_)
                  have hG := hG.trans (lt_eq ex_3107)
                  have rg_x_3107 := fb_rng x_3107
                  have qx_3107 := ti_div ex_3107 rfl kc_2 hi0_n_3071.1 (by decide)
                  have Qx_3107 := ti_divE ex_3107 rfl kc_2 hi0_n_3071.1 (by decide)
                  refine lv_imul hx hb dX7_seekRests_108 ?_
                  refine lv_topi (fun x_3108 ex_3108 => ?_)
                  have hG := hG.trans (lt_eq ex_3108)
                  have vx_3108 : x_3108.toInt = 10 * x_3107.toInt := ti_mul ex_3108 kc_10 rfl (om_01615985 qx_3107.1) (om_e51e3a41 gc_3072 qx_3107.2)
                  refine lv_iload_n hx hb dX7_seekRests_109 rfl (lv_at hl 2 rfl) ?_
                  refine lv_iconst (v := 2) hx hb dX7_seekRests_110 (by decide) ?_
                  refine lv_irem hx hb dX7_seekRests_111 (by decide) ?_
                  refine lv_topi (fun x_3109 ex_3109 => ?_)
                  have hG := hG.trans (lt_eq ex_3109)
                  have rg_x_3109 := fb_rng x_3109
                  have qx_3109 := ti_rem ex_3109 rfl kc_2 hi0_n_3071.1 (by decide)
                  have Qx_3109 := ti_remE ex_3109 rfl kc_2 hi0_n_3071.1 (by decide)
                  refine lv_iadd hx hb dX7_seekRests_112 ?_
                  refine lv_topi (fun x_3110 ex_3110 => ?_)
                  have hG := hG.trans (lt_eq ex_3110)
                  have vx_3110 : x_3110.toInt = 10 * x_3107.toInt + x_3109.toInt := om_eaf66da5 (ti_add ex_3110 vx_3108 rfl (om_793baeb6 qx_3107.1 qx_3109.1) (om_ffe800b0 gc_3072 qx_3107.2 qx_3109.2.1))
                  refine va_put (D := (dC, dI)) (ci := 7) (v := .int x_3110) (ty := .int) (C := RX7) (T := TX7) (N := 48) hx hb hts inX7 tyX7 tyX7_ok nmX7 hown hK hP hD hS 0 rfl rfl 46 (by decide) (hts _ wd_1315) (fun _ h9 => h9) rfl (by decide +kernel) rfl rfl (Nat.le_of_ble_eq_true rfl) dX7_seekRests_113 (fun H locs hP hD hS => ?_)
                  obtain ⟨hP, hD⟩ := wl2 (ws' := [(oc7 oM iM_thrown rM_tape iM_taped iM_size iM_at iM_end iM_token iM_whole iM_nameSize iM_fault iM_place iM_trouble rM_letters iM_failed iM_hasCourt rM_r rM_fresh rM_told rM_read rM_st rM_undone rM_kept iM_undos iM_images rM_fresher iM_fresherSize iM_scale iM_night rM_heardRow rM_cutRow iM_breaths iM_cutMany iM_allBreaths rM_trial rM_words iM_fewestBreaths iM_orderMany iM_orderSum iM_leastOrder rM_often iM_setMany iM_someOf iM_allOf iM_allWeight iM_enoughWeight iM_worthSum x_3110 iM_leastDrawn)]) hP hD rfl
                  obtain ⟨x_3111, ex_3111⟩ : ∃ z : Int32, z = z_3069 + Int32.ofInt 1 := ⟨_, rfl⟩
                  have hG := hG.trans (lt_eq ex_3111)
                  have vx_3111 : x_3111.toInt = z_3069.toInt + 1 := ti_add (y := 1) ex_3111 rfl kc_1 (om_3da4737a gc_3104) (om_f4fb5b9a gc_3104)
                  refine lv_iinc (v := x_3111) (lv' := [(2, .int x_3111), (5, .int 1), (4, .int 0), (3, .int z_3068), (0, .ref oM), (1, .int p0)]) hx hb dX7_seekRests_116 hl (k := 3) rfl ex_3111.symm (by decide) rfl (fun ls hl => ?_)
                  obtain ⟨x_3112, ex_3112⟩ : ∃ z : Int32, z = z_3068 + Int32.ofInt 1 := ⟨_, rfl⟩
                  have hG := hG.trans (lt_eq ex_3112)
                  have vx_3112 : x_3112.toInt = z_3068.toInt + 1 := ti_add (y := 1) ex_3112 rfl kc_1 (om_4e4fce7e hi0_n_3071.1) (om_71ed274a gc_3072)
                  refine lv_iinc (v := x_3112) (lv' := [(3, .int x_3112), (2, .int x_3111), (5, .int 1), (4, .int 0), (0, .ref oM), (1, .int p0)]) hx hb dX7_seekRests_119 hl (k := 3) rfl ex_3112.symm (by decide) rfl (fun ls hl => ?_)
                  refine lv_goto (tgt := 10) hx hb dX7_seekRests_122 (by decide) ?_
                  exact ih_n_3071 x_3112 x_3111 x_3110 _ _ _  ⟨(om_83b90de5 hi0_n_3071.1 vx_3112), (om_d99ff3f9 gc_3072 vx_3112)⟩ (ms_lt hm_n_3071 (om_b9393183 vx_3112) (om_50af1673 gc_3072)) hG hP hD hS (lv_sub hl [0, 1, 4, 5] rfl)
              · skip
                have hG := hG.trans (if_neg c_3103)
                have gc_3103 := ti_nle c_3103 rfl rfl
                refine lv_goto (tgt := 119) hx hb dX7_seekRests_95 (by decide) ?_
                obtain ⟨x_3113, ex_3113⟩ : ∃ z : Int32, z = z_3068 + Int32.ofInt 1 := ⟨_, rfl⟩
                have hG := hG.trans (lt_eq ex_3113)
                have vx_3113 : x_3113.toInt = z_3068.toInt + 1 := ti_add (y := 1) ex_3113 rfl kc_1 (om_4e4fce7e hi0_n_3071.1) (om_71ed274a gc_3072)
                refine lv_iinc (v := x_3113) (lv' := [(3, .int x_3113), (5, .int 1), (4, .int 0), (2, .int z_3069), (0, .ref oM), (1, .int p0)]) hx hb dX7_seekRests_119 hl (k := 2) rfl ex_3113.symm (by decide) rfl (fun ls hl => ?_)
                refine lv_goto (tgt := 10) hx hb dX7_seekRests_122 (by decide) ?_
                exact ih_n_3071 x_3113 z_3069 z_3070 _ _ _  ⟨(om_83b90de5 hi0_n_3071.1 vx_3113), (om_d99ff3f9 gc_3072 vx_3113)⟩ (ms_lt hm_n_3071 (om_b9393183 vx_3113) (om_50af1673 gc_3072)) hG hP hD hS (lv_sub hl [0, 3, 4, 5] rfl)
        · skip
          have hG := hG.trans (if_neg c_3073)
          have gc_3073 := ti_nle c_3073 rfl kc_1
          refine lv_iconst (v := 1) hx hb dX7_seekRests_20 (by decide) ?_
          refine lv_goto (tgt := 25) hx hb dX7_seekRests_21 (by decide) ?_
          refine lv_istore (lv' := [(4, .int 1), (3, .int z_3068), (2, .int z_3069), (0, .ref oM), (1, .int p0)]) hx hb dX7_seekRests_25 hl (by decide) rfl (fun ls hl => ?_)
          refine lv_iload_n hx hb dX7_seekRests_27 rfl (lv_at hl 1 rfl) ?_
          refine lv_iconst (v := 2) hx hb dX7_seekRests_28 (by decide) ?_
          refine lv_irem hx hb dX7_seekRests_29 (by decide) ?_
          refine lv_topi (fun x_3114 ex_3114 => ?_)
          have hG := hG.trans (lt_eq ex_3114)
          have rg_x_3114 := fb_rng x_3114
          have qx_3114 := ti_rem ex_3114 rfl kc_2 hi0_n_3071.1 (by decide)
          have Qx_3114 := ti_remE ex_3114 rfl kc_2 hi0_n_3071.1 (by decide)
          refine lv_iconst (v := 1) hx hb dX7_seekRests_30 (by decide) ?_
          refine lv_icmp_ne (tgt := 38) hx hb dX7_seekRests_31 (by decide) (fun c_3115 => ?_) (fun c_3115 => ?_)
          · skip
            have hG := hG.trans (if_neg c_3115)
            have gc_3115 := ti_ne c_3115 rfl kc_1
            refine lv_iconst (v := 0) hx hb dX7_seekRests_38 (by decide) ?_
            refine lv_istore (lv' := [(5, .int 0), (4, .int 1), (3, .int z_3068), (2, .int z_3069), (0, .ref oM), (1, .int p0)]) hx hb dX7_seekRests_39 hl (by decide) rfl (fun ls hl => ?_)
            refine lv_iload_n hx hb dX7_seekRests_41 rfl (lv_at hl 5 rfl) ?_
            refine lv_iload hx hb dX7_seekRests_42 (lv_at hl 1 rfl) ?_
            refine lv_if_ne (tgt := 51) hx hb dX7_seekRests_44 (by decide) (fun _ => ?_) (fun c => absurd c (by decide))
            refine lv_iconst (v := 0) hx hb dX7_seekRests_51 (by decide) ?_
            refine lv_iload hx hb dX7_seekRests_52 (lv_at hl 0 rfl) ?_
            have hFc : ∀ q, va_A [] _ q → A q := fun q h => hA q (Nat.le_trans hS.1 (va_nilA h))
            refine va_calli (va_runS (As := [.int p0, .int 0, .int 0]) (rest := []) ⟨hx, hb, hml, hown, hts⟩ (tX7_speaksOf l dC dI _ p0 0 0 ) (va_cwS 3 hts (wd_S wd_1297 wd_1298 wd_5 (wd_c wd_1299)) rfl rfl rfl ds_yX7_speaksOf_3 ⟨Nat.le_of_ble_eq_true rfl, Nat.le_of_ble_eq_true rfl⟩) ⟨Pw.fb, fun U hU hW => Pn.to hK hE hS hA hU hW⟩ rfl rfl hl.1 rfl (lv_room (Nat.le_of_ble_eq_true rfl)) dX7_seekRests_54 ⟨Nat.le_of_ble_eq_true rfl, Nat.le_of_ble_eq_true rfl⟩) hS (fun q _ h => hFc q h) hFc (fun r u t H locs ht hvm hw hB hz1 hk1 hS => ?_)
            obtain ⟨hP, hD, hK⟩ := Bw.same ht hvm hP hD hK hk1 hFc
            clear hz1 hk1 hvm ht hB
            have hq9 := hw.2
            have hw := hw.1
            obtain ⟨x_3117, rfl⟩ : ∃ z, z = r := ⟨_, rfl⟩
            have hq_x_3117 := hq9
            have hG := hG.trans (lt_eq hq_x_3117.symm)
            have rg_x_3117 := fb_rng x_3117
            refine lv_iload_n hx hb dX7_seekRests_57 rfl (lv_at hl 5 rfl) ?_
            refine lv_iload hx hb dX7_seekRests_58 (lv_at hl 1 rfl) ?_
            refine lv_iload hx hb dX7_seekRests_60 (lv_at hl 0 rfl) ?_
            have hFc : ∀ q, va_A [] _ q → A q := fun q h => hA q (Nat.le_trans hS.1 (va_nilA h))
            refine va_calli (va_runS (As := [.int p0, .int 1, .int 0]) (rest := [.int x_3117]) ⟨hx, hb, hml, hown, hts⟩ (tX7_speaksOf l dC dI _ p0 1 0 ) (va_cwS 3 hts (wd_S wd_1297 wd_1298 wd_5 (wd_c wd_1299)) rfl rfl rfl ds_yX7_speaksOf_3 ⟨Nat.le_of_ble_eq_true rfl, Nat.le_of_ble_eq_true rfl⟩) ⟨Pw.fb, fun U hU hW => Pn.to hK hE hS hA hU hW⟩ rfl rfl hl.1 rfl (lv_room (Nat.le_of_ble_eq_true rfl)) dX7_seekRests_62 ⟨Nat.le_of_ble_eq_true rfl, Nat.le_of_ble_eq_true rfl⟩) hS (fun q _ h => hFc q h) hFc (fun r u t H locs ht hvm hw hB hz1 hk1 hS => ?_)
            obtain ⟨hP, hD, hK⟩ := Bw.same ht hvm hP hD hK hk1 hFc
            clear hz1 hk1 hvm ht hB
            have hq9 := hw.2
            have hw := hw.1
            obtain ⟨x_3118, rfl⟩ : ∃ z, z = r := ⟨_, rfl⟩
            have hq_x_3118 := hq9
            have hG := hG.trans (lt_eq hq_x_3118.symm)
            have rg_x_3118 := fb_rng x_3118
            refine lv_icmp_gt (tgt := 119) hx hb dX7_seekRests_65 (by decide) (fun c_3119 => ?_) (fun c_3119 => ?_)
            · skip
              have hG := hG.trans (if_pos c_3119)
              have gc_3119 := ti_lt c_3119 rfl rfl
              obtain ⟨x_3120, ex_3120⟩ : ∃ z : Int32, z = z_3068 + Int32.ofInt 1 := ⟨_, rfl⟩
              have hG := hG.trans (lt_eq ex_3120)
              have vx_3120 : x_3120.toInt = z_3068.toInt + 1 := ti_add (y := 1) ex_3120 rfl kc_1 (om_4e4fce7e hi0_n_3071.1) (om_71ed274a gc_3072)
              refine lv_iinc (v := x_3120) (lv' := [(3, .int x_3120), (5, .int 0), (4, .int 1), (2, .int z_3069), (0, .ref oM), (1, .int p0)]) hx hb dX7_seekRests_119 hl (k := 2) rfl ex_3120.symm (by decide) rfl (fun ls hl => ?_)
              refine lv_goto (tgt := 10) hx hb dX7_seekRests_122 (by decide) ?_
              exact ih_n_3071 x_3120 z_3069 z_3070 _ _ _  ⟨(om_83b90de5 hi0_n_3071.1 vx_3120), (om_d99ff3f9 gc_3072 vx_3120)⟩ (ms_lt hm_n_3071 (om_b9393183 vx_3120) (om_50af1673 gc_3072)) hG hP hD hS (lv_sub hl [0, 3, 4, 5] rfl)
            · skip
              have hG := hG.trans (if_neg c_3119)
              have gc_3119 := ti_nlt c_3119 rfl rfl
              refine lv_iload_n hx hb dX7_seekRests_68 rfl (lv_at hl 5 rfl) ?_
              refine lv_iload hx hb dX7_seekRests_69 (lv_at hl 0 rfl) ?_
              refine lv_if_ne (tgt := 78) hx hb dX7_seekRests_71 (by decide) (fun c => absurd c (by decide)) (fun _ => ?_)
              refine lv_iconst (v := 1) hx hb dX7_seekRests_74 (by decide) ?_
              refine lv_goto (tgt := 79) hx hb dX7_seekRests_75 (by decide) ?_
              refine lv_iload hx hb dX7_seekRests_79 (lv_at hl 1 rfl) ?_
              have hFc : ∀ q, va_A [] _ q → A q := fun q h => hA q (Nat.le_trans hS.1 (va_nilA h))
              refine va_calli (va_runS (As := [.int p0, .int 1, .int 1]) (rest := []) ⟨hx, hb, hml, hown, hts⟩ (tX7_speaksOf l dC dI _ p0 1 1 ) (va_cwS 3 hts (wd_S wd_1297 wd_1298 wd_5 (wd_c wd_1299)) rfl rfl rfl ds_yX7_speaksOf_3 ⟨Nat.le_of_ble_eq_true rfl, Nat.le_of_ble_eq_true rfl⟩) ⟨Pw.fb, fun U hU hW => Pn.to hK hE hS hA hU hW⟩ rfl rfl hl.1 rfl (lv_room (Nat.le_of_ble_eq_true rfl)) dX7_seekRests_81 ⟨Nat.le_of_ble_eq_true rfl, Nat.le_of_ble_eq_true rfl⟩) hS (fun q _ h => hFc q h) hFc (fun r u t H locs ht hvm hw hB hz1 hk1 hS => ?_)
              obtain ⟨hP, hD, hK⟩ := Bw.same ht hvm hP hD hK hk1 hFc
              clear hz1 hk1 hvm ht hB
              have hq9 := hw.2
              have hw := hw.1
              obtain ⟨x_3122, rfl⟩ : ∃ z, z = r := ⟨_, rfl⟩
              have hq_x_3122 := hq9
              have hG := hG.trans (lt_eq hq_x_3122.symm)
              have rg_x_3122 := fb_rng x_3122
              refine lv_iload_n hx hb dX7_seekRests_84 rfl (lv_at hl 5 rfl) ?_
              refine lv_iload hx hb dX7_seekRests_85 (lv_at hl 0 rfl) ?_
              refine lv_iload hx hb dX7_seekRests_87 (lv_at hl 1 rfl) ?_
              have hFc : ∀ q, va_A [] _ q → A q := fun q h => hA q (Nat.le_trans hS.1 (va_nilA h))
              refine va_calli (va_runS (As := [.int p0, .int 0, .int 1]) (rest := [.int x_3122]) ⟨hx, hb, hml, hown, hts⟩ (tX7_speaksOf l dC dI _ p0 0 1 ) (va_cwS 3 hts (wd_S wd_1297 wd_1298 wd_5 (wd_c wd_1299)) rfl rfl rfl ds_yX7_speaksOf_3 ⟨Nat.le_of_ble_eq_true rfl, Nat.le_of_ble_eq_true rfl⟩) ⟨Pw.fb, fun U hU hW => Pn.to hK hE hS hA hU hW⟩ rfl rfl hl.1 rfl (lv_room (Nat.le_of_ble_eq_true rfl)) dX7_seekRests_89 ⟨Nat.le_of_ble_eq_true rfl, Nat.le_of_ble_eq_true rfl⟩) hS (fun q _ h => hFc q h) hFc (fun r u t H locs ht hvm hw hB hz1 hk1 hS => ?_)
              obtain ⟨hP, hD, hK⟩ := Bw.same ht hvm hP hD hK hk1 hFc
              clear hz1 hk1 hvm ht hB
              have hq9 := hw.2
              have hw := hw.1
              obtain ⟨x_3123, rfl⟩ : ∃ z, z = r := ⟨_, rfl⟩
              have hq_x_3123 := hq9
              have hG := hG.trans (lt_eq hq_x_3123.symm)
              have rg_x_3123 := fb_rng x_3123
              refine lv_icmp_le (tgt := 98) hx hb dX7_seekRests_92 (by decide) (fun c_3124 => ?_) (fun c_3124 => ?_)
              · skip
                have hG := hG.trans (if_pos c_3124)
                have gc_3124 := ti_le c_3124 rfl rfl
                refine lv_iload_n hx hb dX7_seekRests_98 rfl (lv_at hl 3 rfl) ?_
                refine lv_if_ne (tgt := 116) hx hb dX7_seekRests_99 (by decide) (fun c_3125 => ?_) (fun c_3125 => ?_)
                · skip
                  have hG := hG.trans (if_neg c_3125)
                  have gc_3125 := ti_ne c_3125 rfl kc_0
                  obtain ⟨x_3126, ex_3126⟩ : ∃ z : Int32, z = z_3069 + Int32.ofInt 1 := ⟨_, rfl⟩
                  have hG := hG.trans (lt_eq ex_3126)
                  have rg_x_3126 := fb_rng x_3126
                  refine lv_iinc (v := x_3126) (lv' := [(2, .int x_3126), (5, .int 0), (4, .int 1), (3, .int z_3068), (0, .ref oM), (1, .int p0)]) hx hb dX7_seekRests_116 hl (k := 3) rfl ex_3126.symm (by decide) rfl (fun ls hl => ?_)
                  obtain ⟨x_3127, ex_3127⟩ : ∃ z : Int32, z = z_3068 + Int32.ofInt 1 := ⟨_, rfl⟩
                  have hG := hG.trans (lt_eq ex_3127)
                  have vx_3127 : x_3127.toInt = z_3068.toInt + 1 := ti_add (y := 1) ex_3127 rfl kc_1 (om_4e4fce7e hi0_n_3071.1) (om_71ed274a gc_3072)
                  refine lv_iinc (v := x_3127) (lv' := [(3, .int x_3127), (2, .int x_3126), (5, .int 0), (4, .int 1), (0, .ref oM), (1, .int p0)]) hx hb dX7_seekRests_119 hl (k := 3) rfl ex_3127.symm (by decide) rfl (fun ls hl => ?_)
                  refine lv_goto (tgt := 10) hx hb dX7_seekRests_122 (by decide) ?_
                  exact ih_n_3071 x_3127 x_3126 z_3070 _ _ _  ⟨(om_83b90de5 hi0_n_3071.1 vx_3127), (om_d99ff3f9 gc_3072 vx_3127)⟩ (ms_lt hm_n_3071 (om_b9393183 vx_3127) (om_50af1673 gc_3072)) hG hP hD hS (lv_sub hl [0, 1, 4, 5] rfl)
                · skip
                  have hG := hG.trans (if_pos c_3125)
                  have gc_3125 := ti_eq c_3125 rfl kc_0
                  refine lv_aload_n hx hb dX7_seekRests_102 rfl (lv_at hl 4 rfl) ?_
                  refine lv_bipush (v := 10) hx hb dX7_seekRests_103 (by decide) ?_
                  refine lv_iload_n hx hb dX7_seekRests_105 rfl (lv_at hl 2 rfl) ?_
                  refine lv_iconst (v := 2) hx hb dX7_seekRests_106 (by decide) ?_
                  refine lv_idiv hx hb dX7_seekRests_107 (by decide) ?_
                  refine lv_topi (fun x_3128 ex_3128 => ?_)
                  have hG := hG.trans (lt_eq ex_3128)
                  have rg_x_3128 := fb_rng x_3128
                  have qx_3128 := ti_div ex_3128 rfl kc_2 hi0_n_3071.1 (by decide)
                  have Qx_3128 := ti_divE ex_3128 rfl kc_2 hi0_n_3071.1 (by decide)
                  refine lv_imul hx hb dX7_seekRests_108 ?_
                  refine lv_topi (fun x_3129 ex_3129 => ?_)
                  have hG := hG.trans (lt_eq ex_3129)
                  have vx_3129 : x_3129.toInt = 10 * x_3128.toInt := ti_mul ex_3129 kc_10 rfl (om_01615985 qx_3128.1) (om_e51e3a41 gc_3072 qx_3128.2)
                  refine lv_iload_n hx hb dX7_seekRests_109 rfl (lv_at hl 2 rfl) ?_
                  refine lv_iconst (v := 2) hx hb dX7_seekRests_110 (by decide) ?_
                  refine lv_irem hx hb dX7_seekRests_111 (by decide) ?_
                  refine lv_topi (fun x_3130 ex_3130 => ?_)
                  have hG := hG.trans (lt_eq ex_3130)
                  have rg_x_3130 := fb_rng x_3130
                  have qx_3130 := ti_rem ex_3130 rfl kc_2 hi0_n_3071.1 (by decide)
                  have Qx_3130 := ti_remE ex_3130 rfl kc_2 hi0_n_3071.1 (by decide)
                  refine lv_iadd hx hb dX7_seekRests_112 ?_
                  refine lv_topi (fun x_3131 ex_3131 => ?_)
                  have hG := hG.trans (lt_eq ex_3131)
                  have vx_3131 : x_3131.toInt = 10 * x_3128.toInt + x_3130.toInt := om_eaf66da5 (ti_add ex_3131 vx_3129 rfl (om_793baeb6 qx_3128.1 qx_3130.1) (om_ffe800b0 gc_3072 qx_3128.2 qx_3130.2.1))
                  refine va_put (D := (dC, dI)) (ci := 7) (v := .int x_3131) (ty := .int) (C := RX7) (T := TX7) (N := 48) hx hb hts inX7 tyX7 tyX7_ok nmX7 hown hK hP hD hS 0 rfl rfl 46 (by decide) (hts _ wd_1315) (fun _ h9 => h9) rfl (by decide +kernel) rfl rfl (Nat.le_of_ble_eq_true rfl) dX7_seekRests_113 (fun H locs hP hD hS => ?_)
                  obtain ⟨hP, hD⟩ := wl2 (ws' := [(oc7 oM iM_thrown rM_tape iM_taped iM_size iM_at iM_end iM_token iM_whole iM_nameSize iM_fault iM_place iM_trouble rM_letters iM_failed iM_hasCourt rM_r rM_fresh rM_told rM_read rM_st rM_undone rM_kept iM_undos iM_images rM_fresher iM_fresherSize iM_scale iM_night rM_heardRow rM_cutRow iM_breaths iM_cutMany iM_allBreaths rM_trial rM_words iM_fewestBreaths iM_orderMany iM_orderSum iM_leastOrder rM_often iM_setMany iM_someOf iM_allOf iM_allWeight iM_enoughWeight iM_worthSum x_3131 iM_leastDrawn)]) hP hD rfl
                  obtain ⟨x_3132, ex_3132⟩ : ∃ z : Int32, z = z_3069 + Int32.ofInt 1 := ⟨_, rfl⟩
                  have hG := hG.trans (lt_eq ex_3132)
                  have vx_3132 : x_3132.toInt = z_3069.toInt + 1 := ti_add (y := 1) ex_3132 rfl kc_1 (om_3da4737a gc_3125) (om_f4fb5b9a gc_3125)
                  refine lv_iinc (v := x_3132) (lv' := [(2, .int x_3132), (5, .int 0), (4, .int 1), (3, .int z_3068), (0, .ref oM), (1, .int p0)]) hx hb dX7_seekRests_116 hl (k := 3) rfl ex_3132.symm (by decide) rfl (fun ls hl => ?_)
                  obtain ⟨x_3133, ex_3133⟩ : ∃ z : Int32, z = z_3068 + Int32.ofInt 1 := ⟨_, rfl⟩
                  have hG := hG.trans (lt_eq ex_3133)
                  have vx_3133 : x_3133.toInt = z_3068.toInt + 1 := ti_add (y := 1) ex_3133 rfl kc_1 (om_4e4fce7e hi0_n_3071.1) (om_71ed274a gc_3072)
                  refine lv_iinc (v := x_3133) (lv' := [(3, .int x_3133), (2, .int x_3132), (5, .int 0), (4, .int 1), (0, .ref oM), (1, .int p0)]) hx hb dX7_seekRests_119 hl (k := 3) rfl ex_3133.symm (by decide) rfl (fun ls hl => ?_)
                  refine lv_goto (tgt := 10) hx hb dX7_seekRests_122 (by decide) ?_
                  exact ih_n_3071 x_3133 x_3132 x_3131 _ _ _  ⟨(om_83b90de5 hi0_n_3071.1 vx_3133), (om_d99ff3f9 gc_3072 vx_3133)⟩ (ms_lt hm_n_3071 (om_b9393183 vx_3133) (om_50af1673 gc_3072)) hG hP hD hS (lv_sub hl [0, 1, 4, 5] rfl)
              · skip
                have hG := hG.trans (if_neg c_3124)
                have gc_3124 := ti_nle c_3124 rfl rfl
                refine lv_goto (tgt := 119) hx hb dX7_seekRests_95 (by decide) ?_
                obtain ⟨x_3134, ex_3134⟩ : ∃ z : Int32, z = z_3068 + Int32.ofInt 1 := ⟨_, rfl⟩
                have hG := hG.trans (lt_eq ex_3134)
                have vx_3134 : x_3134.toInt = z_3068.toInt + 1 := ti_add (y := 1) ex_3134 rfl kc_1 (om_4e4fce7e hi0_n_3071.1) (om_71ed274a gc_3072)
                refine lv_iinc (v := x_3134) (lv' := [(3, .int x_3134), (5, .int 0), (4, .int 1), (2, .int z_3069), (0, .ref oM), (1, .int p0)]) hx hb dX7_seekRests_119 hl (k := 2) rfl ex_3134.symm (by decide) rfl (fun ls hl => ?_)
                refine lv_goto (tgt := 10) hx hb dX7_seekRests_122 (by decide) ?_
                exact ih_n_3071 x_3134 z_3069 z_3070 _ _ _  ⟨(om_83b90de5 hi0_n_3071.1 vx_3134), (om_d99ff3f9 gc_3072 vx_3134)⟩ (ms_lt hm_n_3071 (om_b9393183 vx_3134) (om_50af1673 gc_3072)) hG hP hD hS (lv_sub hl [0, 3, 4, 5] rfl)
          · skip
            have hG := hG.trans (if_pos c_3115)
            have gc_3115 := ti_eq c_3115 rfl kc_1
            refine lv_iconst (v := 1) hx hb dX7_seekRests_34 (by decide) ?_
            refine lv_goto (tgt := 39) hx hb dX7_seekRests_35 (by decide) ?_
            refine lv_istore (lv' := [(5, .int 1), (4, .int 1), (3, .int z_3068), (2, .int z_3069), (0, .ref oM), (1, .int p0)]) hx hb dX7_seekRests_39 hl (by decide) rfl (fun ls hl => ?_)
            refine lv_iload_n hx hb dX7_seekRests_41 rfl (lv_at hl 5 rfl) ?_
            refine lv_iload hx hb dX7_seekRests_42 (lv_at hl 1 rfl) ?_
            refine lv_if_ne (tgt := 51) hx hb dX7_seekRests_44 (by decide) (fun _ => ?_) (fun c => absurd c (by decide))
            refine lv_iconst (v := 0) hx hb dX7_seekRests_51 (by decide) ?_
            refine lv_iload hx hb dX7_seekRests_52 (lv_at hl 0 rfl) ?_
            have hFc : ∀ q, va_A [] _ q → A q := fun q h => hA q (Nat.le_trans hS.1 (va_nilA h))
            refine va_calli (va_runS (As := [.int p0, .int 0, .int 1]) (rest := []) ⟨hx, hb, hml, hown, hts⟩ (tX7_speaksOf l dC dI _ p0 0 1 ) (va_cwS 3 hts (wd_S wd_1297 wd_1298 wd_5 (wd_c wd_1299)) rfl rfl rfl ds_yX7_speaksOf_3 ⟨Nat.le_of_ble_eq_true rfl, Nat.le_of_ble_eq_true rfl⟩) ⟨Pw.fb, fun U hU hW => Pn.to hK hE hS hA hU hW⟩ rfl rfl hl.1 rfl (lv_room (Nat.le_of_ble_eq_true rfl)) dX7_seekRests_54 ⟨Nat.le_of_ble_eq_true rfl, Nat.le_of_ble_eq_true rfl⟩) hS (fun q _ h => hFc q h) hFc (fun r u t H locs ht hvm hw hB hz1 hk1 hS => ?_)
            obtain ⟨hP, hD, hK⟩ := Bw.same ht hvm hP hD hK hk1 hFc
            clear hz1 hk1 hvm ht hB
            have hq9 := hw.2
            have hw := hw.1
            obtain ⟨x_3136, rfl⟩ : ∃ z, z = r := ⟨_, rfl⟩
            have hq_x_3136 := hq9
            have hG := hG.trans (lt_eq hq_x_3136.symm)
            have rg_x_3136 := fb_rng x_3136
            refine lv_iload_n hx hb dX7_seekRests_57 rfl (lv_at hl 5 rfl) ?_
            refine lv_iload hx hb dX7_seekRests_58 (lv_at hl 1 rfl) ?_
            refine lv_iload hx hb dX7_seekRests_60 (lv_at hl 0 rfl) ?_
            have hFc : ∀ q, va_A [] _ q → A q := fun q h => hA q (Nat.le_trans hS.1 (va_nilA h))
            refine va_calli (va_runS (As := [.int p0, .int 1, .int 1]) (rest := [.int x_3136]) ⟨hx, hb, hml, hown, hts⟩ (tX7_speaksOf l dC dI _ p0 1 1 ) (va_cwS 3 hts (wd_S wd_1297 wd_1298 wd_5 (wd_c wd_1299)) rfl rfl rfl ds_yX7_speaksOf_3 ⟨Nat.le_of_ble_eq_true rfl, Nat.le_of_ble_eq_true rfl⟩) ⟨Pw.fb, fun U hU hW => Pn.to hK hE hS hA hU hW⟩ rfl rfl hl.1 rfl (lv_room (Nat.le_of_ble_eq_true rfl)) dX7_seekRests_62 ⟨Nat.le_of_ble_eq_true rfl, Nat.le_of_ble_eq_true rfl⟩) hS (fun q _ h => hFc q h) hFc (fun r u t H locs ht hvm hw hB hz1 hk1 hS => ?_)
            obtain ⟨hP, hD, hK⟩ := Bw.same ht hvm hP hD hK hk1 hFc
            clear hz1 hk1 hvm ht hB
            have hq9 := hw.2
            have hw := hw.1
            obtain ⟨x_3137, rfl⟩ : ∃ z, z = r := ⟨_, rfl⟩
            have hq_x_3137 := hq9
            have hG := hG.trans (lt_eq hq_x_3137.symm)
            have rg_x_3137 := fb_rng x_3137
            refine lv_icmp_gt (tgt := 119) hx hb dX7_seekRests_65 (by decide) (fun c_3138 => ?_) (fun c_3138 => ?_)
            · skip
              have hG := hG.trans (if_pos c_3138)
              have gc_3138 := ti_lt c_3138 rfl rfl
              obtain ⟨x_3139, ex_3139⟩ : ∃ z : Int32, z = z_3068 + Int32.ofInt 1 := ⟨_, rfl⟩
              have hG := hG.trans (lt_eq ex_3139)
              have vx_3139 : x_3139.toInt = z_3068.toInt + 1 := ti_add (y := 1) ex_3139 rfl kc_1 (om_4e4fce7e hi0_n_3071.1) (om_71ed274a gc_3072)
              refine lv_iinc (v := x_3139) (lv' := [(3, .int x_3139), (5, .int 1), (4, .int 1), (2, .int z_3069), (0, .ref oM), (1, .int p0)]) hx hb dX7_seekRests_119 hl (k := 2) rfl ex_3139.symm (by decide) rfl (fun ls hl => ?_)
              refine lv_goto (tgt := 10) hx hb dX7_seekRests_122 (by decide) ?_
              exact ih_n_3071 x_3139 z_3069 z_3070 _ _ _  ⟨(om_83b90de5 hi0_n_3071.1 vx_3139), (om_d99ff3f9 gc_3072 vx_3139)⟩ (ms_lt hm_n_3071 (om_b9393183 vx_3139) (om_50af1673 gc_3072)) hG hP hD hS (lv_sub hl [0, 3, 4, 5] rfl)
            · skip
              have hG := hG.trans (if_neg c_3138)
              have gc_3138 := ti_nlt c_3138 rfl rfl
              refine lv_iload_n hx hb dX7_seekRests_68 rfl (lv_at hl 5 rfl) ?_
              refine lv_iload hx hb dX7_seekRests_69 (lv_at hl 0 rfl) ?_
              refine lv_if_ne (tgt := 78) hx hb dX7_seekRests_71 (by decide) (fun _ => ?_) (fun c => absurd c (by decide))
              refine lv_iconst (v := 0) hx hb dX7_seekRests_78 (by decide) ?_
              refine lv_iload hx hb dX7_seekRests_79 (lv_at hl 1 rfl) ?_
              have hFc : ∀ q, va_A [] _ q → A q := fun q h => hA q (Nat.le_trans hS.1 (va_nilA h))
              refine va_calli (va_runS (As := [.int p0, .int 0, .int 1]) (rest := []) ⟨hx, hb, hml, hown, hts⟩ (tX7_speaksOf l dC dI _ p0 0 1 ) (va_cwS 3 hts (wd_S wd_1297 wd_1298 wd_5 (wd_c wd_1299)) rfl rfl rfl ds_yX7_speaksOf_3 ⟨Nat.le_of_ble_eq_true rfl, Nat.le_of_ble_eq_true rfl⟩) ⟨Pw.fb, fun U hU hW => Pn.to hK hE hS hA hU hW⟩ rfl rfl hl.1 rfl (lv_room (Nat.le_of_ble_eq_true rfl)) dX7_seekRests_81 ⟨Nat.le_of_ble_eq_true rfl, Nat.le_of_ble_eq_true rfl⟩) hS (fun q _ h => hFc q h) hFc (fun r u t H locs ht hvm hw hB hz1 hk1 hS => ?_)
              obtain ⟨hP, hD, hK⟩ := Bw.same ht hvm hP hD hK hk1 hFc
              clear hz1 hk1 hvm ht hB
              have hq9 := hw.2
              have hw := hw.1
              obtain ⟨x_3141, rfl⟩ : ∃ z, z = r := ⟨_, rfl⟩
              have hq_x_3141 := hq9
              have hG := hG.trans (lt_eq hq_x_3141.symm)
              have rg_x_3141 := fb_rng x_3141
              refine lv_iload_n hx hb dX7_seekRests_84 rfl (lv_at hl 5 rfl) ?_
              refine lv_iload hx hb dX7_seekRests_85 (lv_at hl 0 rfl) ?_
              refine lv_iload hx hb dX7_seekRests_87 (lv_at hl 1 rfl) ?_
              have hFc : ∀ q, va_A [] _ q → A q := fun q h => hA q (Nat.le_trans hS.1 (va_nilA h))
              refine va_calli (va_runS (As := [.int p0, .int 1, .int 1]) (rest := [.int x_3141]) ⟨hx, hb, hml, hown, hts⟩ (tX7_speaksOf l dC dI _ p0 1 1 ) (va_cwS 3 hts (wd_S wd_1297 wd_1298 wd_5 (wd_c wd_1299)) rfl rfl rfl ds_yX7_speaksOf_3 ⟨Nat.le_of_ble_eq_true rfl, Nat.le_of_ble_eq_true rfl⟩) ⟨Pw.fb, fun U hU hW => Pn.to hK hE hS hA hU hW⟩ rfl rfl hl.1 rfl (lv_room (Nat.le_of_ble_eq_true rfl)) dX7_seekRests_89 ⟨Nat.le_of_ble_eq_true rfl, Nat.le_of_ble_eq_true rfl⟩) hS (fun q _ h => hFc q h) hFc (fun r u t H locs ht hvm hw hB hz1 hk1 hS => ?_)
              obtain ⟨hP, hD, hK⟩ := Bw.same ht hvm hP hD hK hk1 hFc
              clear hz1 hk1 hvm ht hB
              have hq9 := hw.2
              have hw := hw.1
              obtain ⟨x_3142, rfl⟩ : ∃ z, z = r := ⟨_, rfl⟩
              have hq_x_3142 := hq9
              have hG := hG.trans (lt_eq hq_x_3142.symm)
              have rg_x_3142 := fb_rng x_3142
              refine lv_icmp_le (tgt := 98) hx hb dX7_seekRests_92 (by decide) (fun c_3143 => ?_) (fun c_3143 => ?_)
              · skip
                have hG := hG.trans (if_pos c_3143)
                have gc_3143 := ti_le c_3143 rfl rfl
                refine lv_iload_n hx hb dX7_seekRests_98 rfl (lv_at hl 3 rfl) ?_
                refine lv_if_ne (tgt := 116) hx hb dX7_seekRests_99 (by decide) (fun c_3144 => ?_) (fun c_3144 => ?_)
                · skip
                  have hG := hG.trans (if_neg c_3144)
                  have gc_3144 := ti_ne c_3144 rfl kc_0
                  obtain ⟨x_3145, ex_3145⟩ : ∃ z : Int32, z = z_3069 + Int32.ofInt 1 := ⟨_, rfl⟩
                  have hG := hG.trans (lt_eq ex_3145)
                  have rg_x_3145 := fb_rng x_3145
                  refine lv_iinc (v := x_3145) (lv' := [(2, .int x_3145), (5, .int 1), (4, .int 1), (3, .int z_3068), (0, .ref oM), (1, .int p0)]) hx hb dX7_seekRests_116 hl (k := 3) rfl ex_3145.symm (by decide) rfl (fun ls hl => ?_)
                  obtain ⟨x_3146, ex_3146⟩ : ∃ z : Int32, z = z_3068 + Int32.ofInt 1 := ⟨_, rfl⟩
                  have hG := hG.trans (lt_eq ex_3146)
                  have vx_3146 : x_3146.toInt = z_3068.toInt + 1 := ti_add (y := 1) ex_3146 rfl kc_1 (om_4e4fce7e hi0_n_3071.1) (om_71ed274a gc_3072)
                  refine lv_iinc (v := x_3146) (lv' := [(3, .int x_3146), (2, .int x_3145), (5, .int 1), (4, .int 1), (0, .ref oM), (1, .int p0)]) hx hb dX7_seekRests_119 hl (k := 3) rfl ex_3146.symm (by decide) rfl (fun ls hl => ?_)
                  refine lv_goto (tgt := 10) hx hb dX7_seekRests_122 (by decide) ?_
                  exact ih_n_3071 x_3146 x_3145 z_3070 _ _ _  ⟨(om_83b90de5 hi0_n_3071.1 vx_3146), (om_d99ff3f9 gc_3072 vx_3146)⟩ (ms_lt hm_n_3071 (om_b9393183 vx_3146) (om_50af1673 gc_3072)) hG hP hD hS (lv_sub hl [0, 1, 4, 5] rfl)
                · skip
                  have hG := hG.trans (if_pos c_3144)
                  have gc_3144 := ti_eq c_3144 rfl kc_0
                  refine lv_aload_n hx hb dX7_seekRests_102 rfl (lv_at hl 4 rfl) ?_
                  refine lv_bipush (v := 10) hx hb dX7_seekRests_103 (by decide) ?_
                  refine lv_iload_n hx hb dX7_seekRests_105 rfl (lv_at hl 2 rfl) ?_
                  refine lv_iconst (v := 2) hx hb dX7_seekRests_106 (by decide) ?_
                  refine lv_idiv hx hb dX7_seekRests_107 (by decide) ?_
                  refine lv_topi (fun x_3147 ex_3147 => ?_)
                  have hG := hG.trans (lt_eq ex_3147)
                  have rg_x_3147 := fb_rng x_3147
                  have qx_3147 := ti_div ex_3147 rfl kc_2 hi0_n_3071.1 (by decide)
                  have Qx_3147 := ti_divE ex_3147 rfl kc_2 hi0_n_3071.1 (by decide)
                  refine lv_imul hx hb dX7_seekRests_108 ?_
                  refine lv_topi (fun x_3148 ex_3148 => ?_)
                  have hG := hG.trans (lt_eq ex_3148)
                  have vx_3148 : x_3148.toInt = 10 * x_3147.toInt := ti_mul ex_3148 kc_10 rfl (om_01615985 qx_3147.1) (om_e51e3a41 gc_3072 qx_3147.2)
                  refine lv_iload_n hx hb dX7_seekRests_109 rfl (lv_at hl 2 rfl) ?_
                  refine lv_iconst (v := 2) hx hb dX7_seekRests_110 (by decide) ?_
                  refine lv_irem hx hb dX7_seekRests_111 (by decide) ?_
                  refine lv_topi (fun x_3149 ex_3149 => ?_)
                  have hG := hG.trans (lt_eq ex_3149)
                  have rg_x_3149 := fb_rng x_3149
                  have qx_3149 := ti_rem ex_3149 rfl kc_2 hi0_n_3071.1 (by decide)
                  have Qx_3149 := ti_remE ex_3149 rfl kc_2 hi0_n_3071.1 (by decide)
                  refine lv_iadd hx hb dX7_seekRests_112 ?_
                  refine lv_topi (fun x_3150 ex_3150 => ?_)
                  have hG := hG.trans (lt_eq ex_3150)
                  have vx_3150 : x_3150.toInt = 10 * x_3147.toInt + x_3149.toInt := om_eaf66da5 (ti_add ex_3150 vx_3148 rfl (om_793baeb6 qx_3147.1 qx_3149.1) (om_ffe800b0 gc_3072 qx_3147.2 qx_3149.2.1))
                  refine va_put (D := (dC, dI)) (ci := 7) (v := .int x_3150) (ty := .int) (C := RX7) (T := TX7) (N := 48) hx hb hts inX7 tyX7 tyX7_ok nmX7 hown hK hP hD hS 0 rfl rfl 46 (by decide) (hts _ wd_1315) (fun _ h9 => h9) rfl (by decide +kernel) rfl rfl (Nat.le_of_ble_eq_true rfl) dX7_seekRests_113 (fun H locs hP hD hS => ?_)
                  obtain ⟨hP, hD⟩ := wl2 (ws' := [(oc7 oM iM_thrown rM_tape iM_taped iM_size iM_at iM_end iM_token iM_whole iM_nameSize iM_fault iM_place iM_trouble rM_letters iM_failed iM_hasCourt rM_r rM_fresh rM_told rM_read rM_st rM_undone rM_kept iM_undos iM_images rM_fresher iM_fresherSize iM_scale iM_night rM_heardRow rM_cutRow iM_breaths iM_cutMany iM_allBreaths rM_trial rM_words iM_fewestBreaths iM_orderMany iM_orderSum iM_leastOrder rM_often iM_setMany iM_someOf iM_allOf iM_allWeight iM_enoughWeight iM_worthSum x_3150 iM_leastDrawn)]) hP hD rfl
                  obtain ⟨x_3151, ex_3151⟩ : ∃ z : Int32, z = z_3069 + Int32.ofInt 1 := ⟨_, rfl⟩
                  have hG := hG.trans (lt_eq ex_3151)
                  have vx_3151 : x_3151.toInt = z_3069.toInt + 1 := ti_add (y := 1) ex_3151 rfl kc_1 (om_3da4737a gc_3144) (om_f4fb5b9a gc_3144)
                  refine lv_iinc (v := x_3151) (lv' := [(2, .int x_3151), (5, .int 1), (4, .int 1), (3, .int z_3068), (0, .ref oM), (1, .int p0)]) hx hb dX7_seekRests_116 hl (k := 3) rfl ex_3151.symm (by decide) rfl (fun ls hl => ?_)
                  obtain ⟨x_3152, ex_3152⟩ : ∃ z : Int32, z = z_3068 + Int32.ofInt 1 := ⟨_, rfl⟩
                  have hG := hG.trans (lt_eq ex_3152)
                  have vx_3152 : x_3152.toInt = z_3068.toInt + 1 := ti_add (y := 1) ex_3152 rfl kc_1 (om_4e4fce7e hi0_n_3071.1) (om_71ed274a gc_3072)
                  refine lv_iinc (v := x_3152) (lv' := [(3, .int x_3152), (2, .int x_3151), (5, .int 1), (4, .int 1), (0, .ref oM), (1, .int p0)]) hx hb dX7_seekRests_119 hl (k := 3) rfl ex_3152.symm (by decide) rfl (fun ls hl => ?_)
                  refine lv_goto (tgt := 10) hx hb dX7_seekRests_122 (by decide) ?_
                  exact ih_n_3071 x_3152 x_3151 x_3150 _ _ _  ⟨(om_83b90de5 hi0_n_3071.1 vx_3152), (om_d99ff3f9 gc_3072 vx_3152)⟩ (ms_lt hm_n_3071 (om_b9393183 vx_3152) (om_50af1673 gc_3072)) hG hP hD hS (lv_sub hl [0, 1, 4, 5] rfl)
              · skip
                have hG := hG.trans (if_neg c_3143)
                have gc_3143 := ti_nle c_3143 rfl rfl
                refine lv_goto (tgt := 119) hx hb dX7_seekRests_95 (by decide) ?_
                obtain ⟨x_3153, ex_3153⟩ : ∃ z : Int32, z = z_3068 + Int32.ofInt 1 := ⟨_, rfl⟩
                have hG := hG.trans (lt_eq ex_3153)
                have vx_3153 : x_3153.toInt = z_3068.toInt + 1 := ti_add (y := 1) ex_3153 rfl kc_1 (om_4e4fce7e hi0_n_3071.1) (om_71ed274a gc_3072)
                refine lv_iinc (v := x_3153) (lv' := [(3, .int x_3153), (5, .int 1), (4, .int 1), (2, .int z_3069), (0, .ref oM), (1, .int p0)]) hx hb dX7_seekRests_119 hl (k := 2) rfl ex_3153.symm (by decide) rfl (fun ls hl => ?_)
                refine lv_goto (tgt := 10) hx hb dX7_seekRests_122 (by decide) ?_
                exact ih_n_3071 x_3153 z_3069 z_3070 _ _ _  ⟨(om_83b90de5 hi0_n_3071.1 vx_3153), (om_d99ff3f9 gc_3072 vx_3153)⟩ (ms_lt hm_n_3071 (om_b9393183 vx_3153) (om_50af1673 gc_3072)) hG hP hD hS (lv_sub hl [0, 3, 4, 5] rfl)
  exact key_n_3071 (((2147483647 - (0 : Int32).toInt).toNat) + 1) 0 0 (-2) _ _ _  ⟨(om_b1de7dbe kc_0), (om_daf17c64 kc_0)⟩ (Nat.lt_add_one _) hG hP hD hS hl
set_option maxHeartbeats 4000000 in
set_option maxRecDepth 100000 in
theorem tX7_rests (l : Launch) (dC : Nat → ClassId) (dI : Nat → Nat → Nat) (sz : Nat) (oM : Nat) (iM_thrown : Int32) (rM_tape : Nat) (iM_taped : Int32) (iM_size : Int32) (iM_at : Int32) (iM_end : Int32) (iM_token : Int32) (iM_whole : Int32) (iM_nameSize : Int32) (iM_fault : Int32) (iM_place : Int32) (iM_trouble : Int32) (rM_letters : Nat) (iM_failed : Int32) (iM_hasCourt : Int32) (rM_r : Nat) (fM_r : Nat → Int32) (kM_r : ClassId) (rM_fresh : Nat) (rM_told : Nat) (rM_read : Nat) (rM_st : Nat) (rM_undone : Nat) (rM_kept : Nat) (iM_undos : Int32) (iM_images : Int32) (rM_fresher : Nat) (iM_fresherSize : Int32) (iM_scale : Int32) (iM_night : Int32) (rM_heardRow : Nat) (rM_cutRow : Nat) (iM_breaths : Int32) (iM_cutMany : Int32) (iM_allBreaths : Int32) (rM_trial : Nat) (rM_words : Nat) (iM_fewestBreaths : Int32) (iM_orderMany : Int32) (iM_orderSum : Int32) (iM_leastOrder : Int32) (rM_often : Nat) (iM_setMany : Int32) (iM_someOf : Int32) (iM_allOf : Int32) (iM_allWeight : Int64) (iM_enoughWeight : Int64) (iM_worthSum : Int64) (iM_firstRest : Int32) (iM_leastDrawn : Int32) (p0 : Int32) (b_iM_taped : 0 ≤ iM_taped.toInt ∧ iM_taped.toInt ≤ 900) (b_iM_size : 0 ≤ iM_size.toInt ∧ iM_size.toInt ≤ 900) (b_iM_end : 0 ≤ iM_end.toInt ∧ iM_end.toInt ≤ 900) (b_iM_failed : 0 ≤ iM_failed.toInt ∧ iM_failed.toInt ≤ 1) (b_iM_hasCourt : 0 ≤ iM_hasCourt.toInt ∧ iM_hasCourt.toInt ≤ 1) (b_iM_undos : 0 ≤ iM_undos.toInt ∧ iM_undos.toInt ≤ 16) (b_iM_images : 0 ≤ iM_images.toInt ∧ iM_images.toInt ≤ 3) (b_iM_scale : 1 ≤ iM_scale.toInt ∧ iM_scale.toInt ≤ 1296) (b_iM_breaths : 0 ≤ iM_breaths.toInt ∧ iM_breaths.toInt ≤ 399) (b_iM_cutMany : 0 ≤ iM_cutMany.toInt ∧ iM_cutMany.toInt ≤ 399) (r_R : ROk fM_r) (r_C : iM_hasCourt.toInt ≤ 0 ∨ (1 ≤ (fM_r 1).toInt ∧ 0 ≤ (fM_r 6).toInt ∧ (fM_r 6).toInt < (fM_r 1).toInt))  : Met l yX7_rests (Cond.code yX7_rests cX7_rests 3 (some .int) :: wG) ({ frames := 2, cells := 0, slots := 0, locals := 47 }) (va_Pc [.ref oM, .int p0] (Pw dC dI sz [(oc7 oM iM_thrown rM_tape iM_taped iM_size iM_at iM_end iM_token iM_whole iM_nameSize iM_fault iM_place iM_trouble rM_letters iM_failed iM_hasCourt rM_r rM_fresh rM_told rM_read rM_st rM_undone rM_kept iM_undos iM_images rM_fresher iM_fresherSize iM_scale iM_night rM_heardRow rM_cutRow iM_breaths iM_cutMany iM_allBreaths rM_trial rM_words iM_fewestBreaths iM_orderMany iM_orderSum iM_leastOrder rM_often iM_setMany iM_someOf iM_allOf iM_allWeight iM_enoughWeight iM_worthSum iM_firstRest iM_leastDrawn), (arI rM_r kM_r 287 fM_r)] [(kM_r, .int)])) (va_Qi (fun (r : Int32) (u : Nat) => (True ∧ True) ∧ r = Int32.ofNat u) (fun (u : Nat) (t : State) => ∃ (niM_thrown : Int32) (niM_trouble : Int32) (niM_firstRest : Int32), (PX7_rests iM_hasCourt iM_firstRest p0 = (Int32.ofNat u, niM_thrown, niM_trouble, niM_firstRest)) ∧ Bw dC dI (va_A [(oc7 oM iM_thrown rM_tape iM_taped iM_size iM_at iM_end iM_token iM_whole iM_nameSize iM_fault iM_place iM_trouble rM_letters iM_failed iM_hasCourt rM_r rM_fresh rM_told rM_read rM_st rM_undone rM_kept iM_undos iM_images rM_fresher iM_fresherSize iM_scale iM_night rM_heardRow rM_cutRow iM_breaths iM_cutMany iM_allBreaths rM_trial rM_words iM_fewestBreaths iM_orderMany iM_orderSum iM_leastOrder rM_often iM_setMany iM_someOf iM_allOf iM_allWeight iM_enoughWeight iM_worthSum iM_firstRest iM_leastDrawn), (arI rM_r kM_r 287 fM_r)] sz) [(oc7 oM niM_thrown rM_tape iM_taped iM_size iM_at iM_end iM_token iM_whole iM_nameSize iM_fault iM_place niM_trouble rM_letters iM_failed iM_hasCourt rM_r rM_fresh rM_told rM_read rM_st rM_undone rM_kept iM_undos iM_images rM_fresher iM_fresherSize iM_scale iM_night rM_heardRow rM_cutRow iM_breaths iM_cutMany iM_allBreaths rM_trial rM_words iM_fewestBreaths iM_orderMany iM_orderSum iM_leastOrder rM_often iM_setMany iM_someOf iM_allOf iM_allWeight iM_enoughWeight iM_worthSum niM_firstRest iM_leastDrawn), (arI rM_r kM_r 287 fM_r)] [(kM_r, .int)] t) (va_A [(oc7 oM iM_thrown rM_tape iM_taped iM_size iM_at iM_end iM_token iM_whole iM_nameSize iM_fault iM_place iM_trouble rM_letters iM_failed iM_hasCourt rM_r rM_fresh rM_told rM_read rM_st rM_undone rM_kept iM_undos iM_images rM_fresher iM_fresherSize iM_scale iM_night rM_heardRow rM_cutRow iM_breaths iM_cutMany iM_allBreaths rM_trial rM_words iM_fewestBreaths iM_orderMany iM_orderSum iM_leastOrder rM_often iM_setMany iM_someOf iM_allOf iM_allWeight iM_enoughWeight iM_worthSum iM_firstRest iM_leastDrawn), (arI rM_r kM_r 287 fM_r)] sz)) 0 0 (va_A [(oc7 oM iM_thrown rM_tape iM_taped iM_size iM_at iM_end iM_token iM_whole iM_nameSize iM_fault iM_place iM_trouble rM_letters iM_failed iM_hasCourt rM_r rM_fresh rM_told rM_read rM_st rM_undone rM_kept iM_undos iM_images rM_fresher iM_fresherSize iM_scale iM_night rM_heardRow rM_cutRow iM_breaths iM_cutMany iM_allBreaths rM_trial rM_words iM_fewestBreaths iM_orderMany iM_orderSum iM_leastOrder rM_often iM_setMany iM_someOf iM_allOf iM_allWeight iM_enoughWeight iM_worthSum iM_firstRest iM_leastDrawn), (arI rM_r kM_r 287 fM_r)] sz) := by
  refine Met.ofW (cc := cX7_rests) (maxL := 3) (ret := (some .int)) pnX7 rfl ?_
  intro p e s m args below meth c s₁ B hml hv
  obtain ⟨rfl, hsz, hP, hK, hD0, hE⟩ := hv
  have hx := B.exec
  have hb := B.bytes
  have hr := B.returns
  have hts : ∀ w ∈ wG, w.before ([.ref oM, .int p0] : List Value).toArray s = true := fun w h => atoms_spec (ws := Cond.code yX7_rests cX7_rests 3 (some .int) :: wG) B.pre w (List.mem_cons_of_mem _ h)
  have hown : s.vm.findClass RX7 = some m.cls := own_of B.named rfl
  have hlocks := B.notSynchronized
  subst hsz
  have hD := hD0.self (sz := s.heap.size)
  generalize hAe : va_A [(oc7 oM iM_thrown rM_tape iM_taped iM_size iM_at iM_end iM_token iM_whole iM_nameSize iM_fault iM_place iM_trouble rM_letters iM_failed iM_hasCourt rM_r rM_fresh rM_told rM_read rM_st rM_undone rM_kept iM_undos iM_images rM_fresher iM_fresherSize iM_scale iM_night rM_heardRow rM_cutRow iM_breaths iM_cutMany iM_allBreaths rM_trial rM_words iM_fewestBreaths iM_orderMany iM_orderSum iM_leastOrder rM_often iM_setMany iM_someOf iM_allOf iM_allWeight iM_enoughWeight iM_worthSum iM_firstRest iM_leastDrawn), (arI rM_r kM_r 287 fM_r)] s.heap.size = A at hD hE ⊢
  have hA : ∀ q : Nat, s.heap.size ≤ q → A q := fun q h => by rw [← hAe]; exact Or.inr h
  have hS : va_S A s.heap s.heap [] := va_S.rf
  have hl := lv_entry ([.ref oM, .int p0]) (n := 3) (Nat.le_of_ble_eq_true rfl)
  rw [lg_entry_eq]
  generalize (lg_sl ([.ref oM, .int p0]) ++ List.replicate (3 - (lg_sl ([.ref oM, .int p0])).length) Slot.unset).toArray = ls at hl ⊢
  have hl : lv_has ls 3 [(0, .ref oM), (1, .int p0)] := hl
  have hG := PX7_rests_eq iM_hasCourt iM_firstRest p0
  have s_slips := r_R.slips
  have s_nodes := r_R.nodes
  have s_uns := r_R.uns
  refine lv_aload_n hx hb dX7_rests_0 rfl (lv_at hl 0 rfl) ?_
  have hMs := ml_of hD [true, false] (wc := [(oc7 oM iM_thrown rM_tape iM_taped iM_size iM_at iM_end iM_token iM_whole iM_nameSize iM_fault iM_place iM_trouble rM_letters iM_failed iM_hasCourt rM_r rM_fresh rM_told rM_read rM_st rM_undone rM_kept iM_undos iM_images rM_fresher iM_fresherSize iM_scale iM_night rM_heardRow rM_cutRow iM_breaths iM_cutMany iM_allBreaths rM_trial rM_words iM_fewestBreaths iM_orderMany iM_orderSum iM_leastOrder rM_often iM_setMany iM_someOf iM_allOf iM_allWeight iM_enoughWeight iM_worthSum iM_firstRest iM_leastDrawn)]) rfl
  have hFc := va_freeM hD hS hA _ hMs
  refine va_callv (va_runV (As := []) (rest := []) ⟨hx, hb, hml, hown, hts⟩ (tX7_good l dC dI _ oM iM_thrown rM_tape iM_taped iM_size iM_at iM_end iM_token iM_whole iM_nameSize iM_fault iM_place iM_trouble rM_letters iM_failed iM_hasCourt rM_r rM_fresh rM_told rM_read rM_st rM_undone rM_kept iM_undos iM_images rM_fresher iM_fresherSize iM_scale iM_night rM_heardRow rM_cutRow iM_breaths iM_cutMany iM_allBreaths rM_trial rM_words iM_fewestBreaths iM_orderMany iM_orderSum iM_leastOrder rM_often iM_setMany iM_someOf iM_allOf iM_allWeight iM_enoughWeight iM_worthSum iM_firstRest iM_leastDrawn b_iM_taped b_iM_size b_iM_end b_iM_failed b_iM_hasCourt b_iM_undos b_iM_images b_iM_scale b_iM_breaths b_iM_cutMany) (cwV 0 hts (wd_V wd_388 wd_389 wd_390 wd_5 (wd_c wd_391)) rfl rfl rfl dv_yX7_good_0 ⟨Nat.le_of_ble_eq_true rfl, Nat.le_of_ble_eq_true rfl⟩) ⟨Pw.fb, recvX7 hK hP (q0 := 0) rfl, fun U hU hW => Pw.to (hP.ms _ hMs) (hD.ms _ hMs) (hK.ms [false] rfl) hE hS hFc hU hW⟩ rfl rfl hl.1 rfl (lv_room (Nat.le_of_ble_eq_true rfl)) dX7_rests_1 ⟨Nat.le_of_ble_eq_true rfl, Nat.le_of_ble_eq_true rfl⟩) hS (fun q _ h => hFc q h) hFc (fun u t H locs ht hvm hw hB hz1 hk1 hS => ?_)
  refine ex_2_3 hB (fun x_3167 x_3168 b_x_3167 b_x_3168 e_x_3167_0 hB => ?_)
  obtain ⟨hP, hD⟩ := Bw.goN (ws' := [(oc7 oM x_3167 rM_tape iM_taped iM_size iM_at iM_end iM_token iM_whole iM_nameSize iM_fault iM_place x_3168 rM_letters iM_failed iM_hasCourt rM_r rM_fresh rM_told rM_read rM_st rM_undone rM_kept iM_undos iM_images rM_fresher iM_fresherSize iM_scale iM_night rM_heardRow rM_cutRow iM_breaths iM_cutMany iM_allBreaths rM_trial rM_words iM_fewestBreaths iM_orderMany iM_orderSum iM_leastOrder rM_often iM_setMany iM_someOf iM_allOf iM_allWeight iM_enoughWeight iM_worthSum iM_firstRest iM_leastDrawn), (arI rM_r kM_r 287 fM_r)]) hB rfl ht hP hD _ hMs hk1 hFc rfl
  clear hz1 hk1 hvm ht hB hMs
  have hG := hG.trans (un2_eq e_x_3167_0)
  refine lv_aload_n hx hb dX7_rests_4 rfl (lv_at hl 0 rfl) ?_
  refine lv_iload_n hx hb dX7_rests_5 rfl (lv_at hl 1 rfl) ?_
  refine lv_iconst (v := 0) hx hb dX7_rests_6 (by decide) ?_
  refine lv_bipush (v := 9) hx hb dX7_rests_7 (by decide) ?_
  have hFc : ∀ q, va_A [] _ q → A q := fun q h => hA q (Nat.le_trans hS.1 (va_nilA h))
  refine va_calli (va_runS (As := [.int p0, .int 0, .int 9]) (rest := [.ref oM]) ⟨hx, hb, hml, hown, hts⟩ (tX7_in l dC dI _ p0 0 9 ) (va_cwS 3 hts (wd_S wd_393 wd_394 wd_5 (wd_c wd_395)) rfl rfl rfl ds_yX7_in_3 ⟨Nat.le_of_ble_eq_true rfl, Nat.le_of_ble_eq_true rfl⟩) ⟨Pw.fb, fun U hU hW => Pn.to hK hE hS hA hU hW⟩ rfl rfl hl.1 rfl (lv_room (Nat.le_of_ble_eq_true rfl)) dX7_rests_9 ⟨Nat.le_of_ble_eq_true rfl, Nat.le_of_ble_eq_true rfl⟩) hS (fun q _ h => hFc q h) hFc (fun r u t H locs ht hvm hw hB hz1 hk1 hS => ?_)
  obtain ⟨hP, hD, hK⟩ := Bw.same ht hvm hP hD hK hk1 hFc
  clear hz1 hk1 hvm ht hB
  have hq9 := hw.2
  have hw := hw.1
  obtain ⟨x_3169, rfl⟩ : ∃ z, z = r := ⟨_, rfl⟩
  have hq_x_3169 := hq9
  have hG := hG.trans (lt_eq hq_x_3169.symm)
  have bx_3169 := hw.1
  have dx_3169 := bz_tb bx_3169
  have px_3169 := hw.2
  have hFc := va_freeI hD hS hA
  refine va_calli (va_runV (As := [.int x_3169]) (rest := []) ⟨hx, hb, hml, hown, hts⟩ (tX7_why l dC dI _ oM x_3167 rM_tape iM_taped iM_size iM_at iM_end iM_token iM_whole iM_nameSize iM_fault iM_place x_3168 rM_letters iM_failed iM_hasCourt rM_r fM_r kM_r rM_fresh rM_told rM_read rM_st rM_undone rM_kept iM_undos iM_images rM_fresher iM_fresherSize iM_scale iM_night rM_heardRow rM_cutRow iM_breaths iM_cutMany iM_allBreaths rM_trial rM_words iM_fewestBreaths iM_orderMany iM_orderSum iM_leastOrder rM_often iM_setMany iM_someOf iM_allOf iM_allWeight iM_enoughWeight iM_worthSum iM_firstRest iM_leastDrawn x_3169 b_iM_taped b_iM_size b_iM_end b_iM_failed b_iM_hasCourt b_iM_undos b_iM_images b_iM_scale b_iM_breaths b_iM_cutMany (by assumption) (by assumption) ⟨dx_3169.1, dx_3169.2⟩) (cwV 1 hts (wd_V wd_882 wd_883 wd_884 wd_5 (wd_c wd_885)) rfl rfl rfl dv_yX7_why_1 ⟨Nat.le_of_ble_eq_true rfl, Nat.le_of_ble_eq_true rfl⟩) ⟨Pw.fb, recvX7 hK hP (q0 := 0) rfl, fun U hU hW => Pw.to hP hD hK hE hS hFc hU hW⟩ rfl rfl hl.1 rfl (lv_room (Nat.le_of_ble_eq_true rfl)) dX7_rests_12 ⟨Nat.le_of_ble_eq_true rfl, Nat.le_of_ble_eq_true rfl⟩) hS (fun q _ h => hFc q h) hFc (fun r u t H locs ht hvm hw hB hz1 hk1 hS => ?_)
  have hru9 := hw.2
  have hw := hw.1
  obtain ⟨hP, hD⟩ := Bw.goA (ws' := [(oc7 oM x_3167 rM_tape iM_taped iM_size iM_at iM_end iM_token iM_whole iM_nameSize iM_fault iM_place x_3168 rM_letters iM_failed iM_hasCourt rM_r rM_fresh rM_told rM_read rM_st rM_undone rM_kept iM_undos iM_images rM_fresher iM_fresherSize iM_scale iM_night rM_heardRow rM_cutRow iM_breaths iM_cutMany iM_allBreaths rM_trial rM_words iM_fewestBreaths iM_orderMany iM_orderSum iM_leastOrder rM_often iM_setMany iM_someOf iM_allOf iM_allWeight iM_enoughWeight iM_worthSum iM_firstRest iM_leastDrawn), (arI rM_r kM_r 287 fM_r)]) hB rfl ht hFc rfl
  clear hz1 hk1 hvm ht hB
  rcases hw.2 with ⟨rfl, hc_3170⟩ | ⟨rfl, hc_3170⟩ | ⟨rfl, hc_3170⟩
  · skip
    have hG := hG.trans (lt_eq hru9.symm)
    have hG := hG.trans (if_pos rfl)
    refine lv_istore_n (lv' := [(2, .int 0), (0, .ref oM), (1, .int p0)]) hx hb dX7_rests_15 rfl hl (by decide) rfl (fun ls hl => ?_)
    refine lv_iload_n hx hb dX7_rests_16 rfl (lv_at hl 0 rfl) ?_
    refine lv_if_eq (tgt := 28) hx hb dX7_rests_17 (by decide) (fun _ => ?_) (fun c => absurd c (by decide))
    refine lv_aload_n hx hb dX7_rests_28 rfl (lv_at hl 1 rfl) ?_
    refine lv_iload_n hx hb dX7_rests_29 rfl (lv_at hl 2 rfl) ?_
    have hMs := ml_of hD [true, false] (wc := [(oc7 oM x_3167 rM_tape iM_taped iM_size iM_at iM_end iM_token iM_whole iM_nameSize iM_fault iM_place x_3168 rM_letters iM_failed iM_hasCourt rM_r rM_fresh rM_told rM_read rM_st rM_undone rM_kept iM_undos iM_images rM_fresher iM_fresherSize iM_scale iM_night rM_heardRow rM_cutRow iM_breaths iM_cutMany iM_allBreaths rM_trial rM_words iM_fewestBreaths iM_orderMany iM_orderSum iM_leastOrder rM_often iM_setMany iM_someOf iM_allOf iM_allWeight iM_enoughWeight iM_worthSum iM_firstRest iM_leastDrawn)]) rfl
    have hFc := va_freeM hD hS hA _ hMs
    refine va_calli (va_runV (As := [.int p0]) (rest := []) ⟨hx, hb, hml, hown, hts⟩ (tX7_seekRests l dC dI _ oM x_3167 rM_tape iM_taped iM_size iM_at iM_end iM_token iM_whole iM_nameSize iM_fault iM_place x_3168 rM_letters iM_failed iM_hasCourt rM_r rM_fresh rM_told rM_read rM_st rM_undone rM_kept iM_undos iM_images rM_fresher iM_fresherSize iM_scale iM_night rM_heardRow rM_cutRow iM_breaths iM_cutMany iM_allBreaths rM_trial rM_words iM_fewestBreaths iM_orderMany iM_orderSum iM_leastOrder rM_often iM_setMany iM_someOf iM_allOf iM_allWeight iM_enoughWeight iM_worthSum iM_firstRest iM_leastDrawn p0 b_iM_taped b_iM_size b_iM_end b_iM_failed b_iM_hasCourt b_iM_undos b_iM_images b_iM_scale b_iM_breaths b_iM_cutMany) (cwV 1 hts (wd_V wd_1311 wd_1312 wd_1313 wd_5 (wd_c wd_1314)) rfl rfl rfl dv_yX7_seekRests_1 ⟨Nat.le_of_ble_eq_true rfl, Nat.le_of_ble_eq_true rfl⟩) ⟨Pw.fb, recvX7 hK hP (q0 := 0) rfl, fun U hU hW => Pw.to (hP.ms _ hMs) (hD.ms _ hMs) (hK.ms [false] rfl) hE hS hFc hU hW⟩ rfl rfl hl.1 rfl (lv_room (Nat.le_of_ble_eq_true rfl)) dX7_rests_30 ⟨Nat.le_of_ble_eq_true rfl, Nat.le_of_ble_eq_true rfl⟩) hS (fun q _ h => hFc q h) hFc (fun r u t H locs ht hvm hw hB hz1 hk1 hS => ?_)
    have hru9 := hw.2
    have hw := hw.1
    refine ex_1_1 hB (fun x_3173 e_x_3173_0 hB => ?_)
    obtain ⟨hP, hD⟩ := Bw.goN (ws' := [(oc7 oM x_3167 rM_tape iM_taped iM_size iM_at iM_end iM_token iM_whole iM_nameSize iM_fault iM_place x_3168 rM_letters iM_failed iM_hasCourt rM_r rM_fresh rM_told rM_read rM_st rM_undone rM_kept iM_undos iM_images rM_fresher iM_fresherSize iM_scale iM_night rM_heardRow rM_cutRow iM_breaths iM_cutMany iM_allBreaths rM_trial rM_words iM_fewestBreaths iM_orderMany iM_orderSum iM_leastOrder rM_often iM_setMany iM_someOf iM_allOf iM_allWeight iM_enoughWeight iM_worthSum x_3173 iM_leastDrawn), (arI rM_r kM_r 287 fM_r)]) hB rfl ht hP hD _ hMs hk1 hFc rfl
    clear hz1 hk1 hvm ht hB hMs
    rw [← hru9] at e_x_3173_0
    obtain ⟨x_3174, rfl⟩ : ∃ z, z = r := ⟨_, rfl⟩
    have hG := hG.trans (un2_eq e_x_3173_0)
    exact wq_i hx hb hr (cI x_3174) ⟨⟨trivial, trivial⟩, (cI_of x_3174)⟩ (fun t ht hW => ⟨x_3167, x_3168, x_3173, (cI_tup hG), Bw.to hP hD hK ht hW⟩) hS dX7_rests_33 hlocks
  · skip
    have hG := hG.trans (lt_eq hru9.symm)
    have hG := hG.trans (if_neg (by decide))
    have hG := hG.trans (if_pos rfl)
    refine lv_istore_n (lv' := [(2, .int 1), (0, .ref oM), (1, .int p0)]) hx hb dX7_rests_15 rfl hl (by decide) rfl (fun ls hl => ?_)
    refine lv_iload_n hx hb dX7_rests_16 rfl (lv_at hl 0 rfl) ?_
    refine lv_if_eq (tgt := 28) hx hb dX7_rests_17 (by decide) (fun c => absurd c (by decide)) (fun _ => ?_)
    refine lv_aload_n hx hb dX7_rests_20 rfl (lv_at hl 1 rfl) ?_
    refine lv_iload_n hx hb dX7_rests_21 rfl (lv_at hl 0 rfl) ?_
    have hMs := ml_of hD [true, false] (wc := [(oc7 oM x_3167 rM_tape iM_taped iM_size iM_at iM_end iM_token iM_whole iM_nameSize iM_fault iM_place x_3168 rM_letters iM_failed iM_hasCourt rM_r rM_fresh rM_told rM_read rM_st rM_undone rM_kept iM_undos iM_images rM_fresher iM_fresherSize iM_scale iM_night rM_heardRow rM_cutRow iM_breaths iM_cutMany iM_allBreaths rM_trial rM_words iM_fewestBreaths iM_orderMany iM_orderSum iM_leastOrder rM_often iM_setMany iM_someOf iM_allOf iM_allWeight iM_enoughWeight iM_worthSum iM_firstRest iM_leastDrawn)]) rfl
    have hFc := va_freeM hD hS hA _ hMs
    refine va_calli (va_runV (As := [.int 1]) (rest := []) ⟨hx, hb, hml, hown, hts⟩ (tX7_no l dC dI _ oM x_3167 rM_tape iM_taped iM_size iM_at iM_end iM_token iM_whole iM_nameSize iM_fault iM_place x_3168 rM_letters iM_failed iM_hasCourt rM_r rM_fresh rM_told rM_read rM_st rM_undone rM_kept iM_undos iM_images rM_fresher iM_fresherSize iM_scale iM_night rM_heardRow rM_cutRow iM_breaths iM_cutMany iM_allBreaths rM_trial rM_words iM_fewestBreaths iM_orderMany iM_orderSum iM_leastOrder rM_often iM_setMany iM_someOf iM_allOf iM_allWeight iM_enoughWeight iM_worthSum iM_firstRest iM_leastDrawn 1 b_iM_taped b_iM_size b_iM_end b_iM_failed b_iM_hasCourt b_iM_undos b_iM_images b_iM_scale b_iM_breaths b_iM_cutMany) (cwV 1 hts (wd_V wd_396 wd_397 wd_398 wd_5 (wd_c wd_399)) rfl rfl rfl dv_yX7_no_1 ⟨Nat.le_of_ble_eq_true rfl, Nat.le_of_ble_eq_true rfl⟩) ⟨Pw.fb, recvX7 hK hP (q0 := 0) rfl, fun U hU hW => Pw.to (hP.ms _ hMs) (hD.ms _ hMs) (hK.ms [false] rfl) hE hS hFc hU hW⟩ rfl rfl hl.1 rfl (lv_room (Nat.le_of_ble_eq_true rfl)) dX7_rests_22 ⟨Nat.le_of_ble_eq_true rfl, Nat.le_of_ble_eq_true rfl⟩) hS (fun q _ h => hFc q h) hFc (fun r u t H locs ht hvm hw hB hz1 hk1 hS => ?_)
    have hru9 := hw.2
    have hw := hw.1
    refine ex_1_1 hB (fun x_3176 e_x_3176_0 hB => ?_)
    obtain ⟨hP, hD⟩ := Bw.goN (ws' := [(oc7 oM x_3167 rM_tape iM_taped iM_size iM_at iM_end iM_token iM_whole iM_nameSize iM_fault iM_place x_3176 rM_letters iM_failed iM_hasCourt rM_r rM_fresh rM_told rM_read rM_st rM_undone rM_kept iM_undos iM_images rM_fresher iM_fresherSize iM_scale iM_night rM_heardRow rM_cutRow iM_breaths iM_cutMany iM_allBreaths rM_trial rM_words iM_fewestBreaths iM_orderMany iM_orderSum iM_leastOrder rM_often iM_setMany iM_someOf iM_allOf iM_allWeight iM_enoughWeight iM_worthSum iM_firstRest iM_leastDrawn), (arI rM_r kM_r 287 fM_r)]) hB rfl ht hP hD _ hMs hk1 hFc rfl
    clear hz1 hk1 hvm ht hB hMs
    rw [← hru9] at e_x_3176_0
    obtain ⟨x_3177, rfl⟩ : ∃ z, z = r := ⟨_, rfl⟩
    have hG := hG.trans (un2_eq e_x_3176_0)
    refine lv_goto (tgt := 33) hx hb dX7_rests_25 (by decide) ?_
    exact wq_i hx hb hr (cI x_3177) ⟨⟨trivial, trivial⟩, (cI_of x_3177)⟩ (fun t ht hW => ⟨x_3167, x_3176, iM_firstRest, (cI_tup hG), Bw.to hP hD hK ht hW⟩) hS dX7_rests_33 hlocks
  · skip
    have hG := hG.trans (lt_eq hru9.symm)
    have hG := hG.trans (if_neg (by decide))
    have hG := hG.trans (if_neg (by decide))
    refine lv_istore_n (lv' := [(2, .int 2), (0, .ref oM), (1, .int p0)]) hx hb dX7_rests_15 rfl hl (by decide) rfl (fun ls hl => ?_)
    refine lv_iload_n hx hb dX7_rests_16 rfl (lv_at hl 0 rfl) ?_
    refine lv_if_eq (tgt := 28) hx hb dX7_rests_17 (by decide) (fun c => absurd c (by decide)) (fun _ => ?_)
    refine lv_aload_n hx hb dX7_rests_20 rfl (lv_at hl 1 rfl) ?_
    refine lv_iload_n hx hb dX7_rests_21 rfl (lv_at hl 0 rfl) ?_
    have hMs := ml_of hD [true, false] (wc := [(oc7 oM x_3167 rM_tape iM_taped iM_size iM_at iM_end iM_token iM_whole iM_nameSize iM_fault iM_place x_3168 rM_letters iM_failed iM_hasCourt rM_r rM_fresh rM_told rM_read rM_st rM_undone rM_kept iM_undos iM_images rM_fresher iM_fresherSize iM_scale iM_night rM_heardRow rM_cutRow iM_breaths iM_cutMany iM_allBreaths rM_trial rM_words iM_fewestBreaths iM_orderMany iM_orderSum iM_leastOrder rM_often iM_setMany iM_someOf iM_allOf iM_allWeight iM_enoughWeight iM_worthSum iM_firstRest iM_leastDrawn)]) rfl
    have hFc := va_freeM hD hS hA _ hMs
    refine va_calli (va_runV (As := [.int 2]) (rest := []) ⟨hx, hb, hml, hown, hts⟩ (tX7_no l dC dI _ oM x_3167 rM_tape iM_taped iM_size iM_at iM_end iM_token iM_whole iM_nameSize iM_fault iM_place x_3168 rM_letters iM_failed iM_hasCourt rM_r rM_fresh rM_told rM_read rM_st rM_undone rM_kept iM_undos iM_images rM_fresher iM_fresherSize iM_scale iM_night rM_heardRow rM_cutRow iM_breaths iM_cutMany iM_allBreaths rM_trial rM_words iM_fewestBreaths iM_orderMany iM_orderSum iM_leastOrder rM_often iM_setMany iM_someOf iM_allOf iM_allWeight iM_enoughWeight iM_worthSum iM_firstRest iM_leastDrawn 2 b_iM_taped b_iM_size b_iM_end b_iM_failed b_iM_hasCourt b_iM_undos b_iM_images b_iM_scale b_iM_breaths b_iM_cutMany) (cwV 1 hts (wd_V wd_396 wd_397 wd_398 wd_5 (wd_c wd_399)) rfl rfl rfl dv_yX7_no_1 ⟨Nat.le_of_ble_eq_true rfl, Nat.le_of_ble_eq_true rfl⟩) ⟨Pw.fb, recvX7 hK hP (q0 := 0) rfl, fun U hU hW => Pw.to (hP.ms _ hMs) (hD.ms _ hMs) (hK.ms [false] rfl) hE hS hFc hU hW⟩ rfl rfl hl.1 rfl (lv_room (Nat.le_of_ble_eq_true rfl)) dX7_rests_22 ⟨Nat.le_of_ble_eq_true rfl, Nat.le_of_ble_eq_true rfl⟩) hS (fun q _ h => hFc q h) hFc (fun r u t H locs ht hvm hw hB hz1 hk1 hS => ?_)
    have hru9 := hw.2
    have hw := hw.1
    refine ex_1_1 hB (fun x_3179 e_x_3179_0 hB => ?_)
    obtain ⟨hP, hD⟩ := Bw.goN (ws' := [(oc7 oM x_3167 rM_tape iM_taped iM_size iM_at iM_end iM_token iM_whole iM_nameSize iM_fault iM_place x_3179 rM_letters iM_failed iM_hasCourt rM_r rM_fresh rM_told rM_read rM_st rM_undone rM_kept iM_undos iM_images rM_fresher iM_fresherSize iM_scale iM_night rM_heardRow rM_cutRow iM_breaths iM_cutMany iM_allBreaths rM_trial rM_words iM_fewestBreaths iM_orderMany iM_orderSum iM_leastOrder rM_often iM_setMany iM_someOf iM_allOf iM_allWeight iM_enoughWeight iM_worthSum iM_firstRest iM_leastDrawn), (arI rM_r kM_r 287 fM_r)]) hB rfl ht hP hD _ hMs hk1 hFc rfl
    clear hz1 hk1 hvm ht hB hMs
    rw [← hru9] at e_x_3179_0
    obtain ⟨x_3180, rfl⟩ : ∃ z, z = r := ⟨_, rfl⟩
    have hG := hG.trans (un2_eq e_x_3179_0)
    refine lv_goto (tgt := 33) hx hb dX7_rests_25 (by decide) ?_
    exact wq_i hx hb hr (cI x_3180) ⟨⟨trivial, trivial⟩, (cI_of x_3180)⟩ (fun t ht hW => ⟨x_3167, x_3179, iM_firstRest, (cI_tup hG), Bw.to hP hD hK ht hW⟩) hS dX7_rests_33 hlocks
set_option maxHeartbeats 4000000 in
set_option maxRecDepth 100000 in
theorem tX7_rest (l : Launch) (dC : Nat → ClassId) (dI : Nat → Nat → Nat) (sz : Nat) (oM : Nat) (iM_thrown : Int32) (rM_tape : Nat) (iM_taped : Int32) (iM_size : Int32) (iM_at : Int32) (iM_end : Int32) (iM_token : Int32) (iM_whole : Int32) (iM_nameSize : Int32) (iM_fault : Int32) (iM_place : Int32) (iM_trouble : Int32) (rM_letters : Nat) (iM_failed : Int32) (iM_hasCourt : Int32) (rM_r : Nat) (fM_r : Nat → Int32) (kM_r : ClassId) (rM_fresh : Nat) (rM_told : Nat) (rM_read : Nat) (rM_st : Nat) (rM_undone : Nat) (rM_kept : Nat) (iM_undos : Int32) (iM_images : Int32) (rM_fresher : Nat) (iM_fresherSize : Int32) (iM_scale : Int32) (iM_night : Int32) (rM_heardRow : Nat) (rM_cutRow : Nat) (iM_breaths : Int32) (iM_cutMany : Int32) (iM_allBreaths : Int32) (rM_trial : Nat) (rM_words : Nat) (iM_fewestBreaths : Int32) (iM_orderMany : Int32) (iM_orderSum : Int32) (iM_leastOrder : Int32) (rM_often : Nat) (iM_setMany : Int32) (iM_someOf : Int32) (iM_allOf : Int32) (iM_allWeight : Int64) (iM_enoughWeight : Int64) (iM_worthSum : Int64) (iM_firstRest : Int32) (iM_leastDrawn : Int32) (p0 : Int32) (b_iM_taped : 0 ≤ iM_taped.toInt ∧ iM_taped.toInt ≤ 900) (b_iM_size : 0 ≤ iM_size.toInt ∧ iM_size.toInt ≤ 900) (b_iM_end : 0 ≤ iM_end.toInt ∧ iM_end.toInt ≤ 900) (b_iM_failed : 0 ≤ iM_failed.toInt ∧ iM_failed.toInt ≤ 1) (b_iM_hasCourt : 0 ≤ iM_hasCourt.toInt ∧ iM_hasCourt.toInt ≤ 1) (b_iM_undos : 0 ≤ iM_undos.toInt ∧ iM_undos.toInt ≤ 16) (b_iM_images : 0 ≤ iM_images.toInt ∧ iM_images.toInt ≤ 3) (b_iM_scale : 1 ≤ iM_scale.toInt ∧ iM_scale.toInt ≤ 1296) (b_iM_breaths : 0 ≤ iM_breaths.toInt ∧ iM_breaths.toInt ≤ 399) (b_iM_cutMany : 0 ≤ iM_cutMany.toInt ∧ iM_cutMany.toInt ≤ 399) (r_R : ROk fM_r) (r_C : iM_hasCourt.toInt ≤ 0 ∨ (1 ≤ (fM_r 1).toInt ∧ 0 ≤ (fM_r 6).toInt ∧ (fM_r 6).toInt < (fM_r 1).toInt))  : Met l yX7_rest (Cond.code yX7_rest cX7_rest 3 (some .int) :: wG) ({ frames := 2, cells := 0, slots := 0, locals := 47 }) (va_Pc [.ref oM, .int p0] (Pw dC dI sz [(oc7 oM iM_thrown rM_tape iM_taped iM_size iM_at iM_end iM_token iM_whole iM_nameSize iM_fault iM_place iM_trouble rM_letters iM_failed iM_hasCourt rM_r rM_fresh rM_told rM_read rM_st rM_undone rM_kept iM_undos iM_images rM_fresher iM_fresherSize iM_scale iM_night rM_heardRow rM_cutRow iM_breaths iM_cutMany iM_allBreaths rM_trial rM_words iM_fewestBreaths iM_orderMany iM_orderSum iM_leastOrder rM_often iM_setMany iM_someOf iM_allOf iM_allWeight iM_enoughWeight iM_worthSum iM_firstRest iM_leastDrawn), (arI rM_r kM_r 287 fM_r)] [(kM_r, .int)])) (va_Qi (fun (r : Int32) (u : Nat) => (True ∧ True) ∧ r = Int32.ofNat u) (fun (u : Nat) (t : State) => ∃ (niM_thrown : Int32) (niM_trouble : Int32) (niM_firstRest : Int32), (PX7_rest iM_hasCourt iM_firstRest p0 = (Int32.ofNat u, niM_thrown, niM_trouble, niM_firstRest)) ∧ Bw dC dI (va_A [(oc7 oM iM_thrown rM_tape iM_taped iM_size iM_at iM_end iM_token iM_whole iM_nameSize iM_fault iM_place iM_trouble rM_letters iM_failed iM_hasCourt rM_r rM_fresh rM_told rM_read rM_st rM_undone rM_kept iM_undos iM_images rM_fresher iM_fresherSize iM_scale iM_night rM_heardRow rM_cutRow iM_breaths iM_cutMany iM_allBreaths rM_trial rM_words iM_fewestBreaths iM_orderMany iM_orderSum iM_leastOrder rM_often iM_setMany iM_someOf iM_allOf iM_allWeight iM_enoughWeight iM_worthSum iM_firstRest iM_leastDrawn), (arI rM_r kM_r 287 fM_r)] sz) [(oc7 oM niM_thrown rM_tape iM_taped iM_size iM_at iM_end iM_token iM_whole iM_nameSize iM_fault iM_place niM_trouble rM_letters iM_failed iM_hasCourt rM_r rM_fresh rM_told rM_read rM_st rM_undone rM_kept iM_undos iM_images rM_fresher iM_fresherSize iM_scale iM_night rM_heardRow rM_cutRow iM_breaths iM_cutMany iM_allBreaths rM_trial rM_words iM_fewestBreaths iM_orderMany iM_orderSum iM_leastOrder rM_often iM_setMany iM_someOf iM_allOf iM_allWeight iM_enoughWeight iM_worthSum niM_firstRest iM_leastDrawn), (arI rM_r kM_r 287 fM_r)] [(kM_r, .int)] t) (va_A [(oc7 oM iM_thrown rM_tape iM_taped iM_size iM_at iM_end iM_token iM_whole iM_nameSize iM_fault iM_place iM_trouble rM_letters iM_failed iM_hasCourt rM_r rM_fresh rM_told rM_read rM_st rM_undone rM_kept iM_undos iM_images rM_fresher iM_fresherSize iM_scale iM_night rM_heardRow rM_cutRow iM_breaths iM_cutMany iM_allBreaths rM_trial rM_words iM_fewestBreaths iM_orderMany iM_orderSum iM_leastOrder rM_often iM_setMany iM_someOf iM_allOf iM_allWeight iM_enoughWeight iM_worthSum iM_firstRest iM_leastDrawn), (arI rM_r kM_r 287 fM_r)] sz)) 0 0 (va_A [(oc7 oM iM_thrown rM_tape iM_taped iM_size iM_at iM_end iM_token iM_whole iM_nameSize iM_fault iM_place iM_trouble rM_letters iM_failed iM_hasCourt rM_r rM_fresh rM_told rM_read rM_st rM_undone rM_kept iM_undos iM_images rM_fresher iM_fresherSize iM_scale iM_night rM_heardRow rM_cutRow iM_breaths iM_cutMany iM_allBreaths rM_trial rM_words iM_fewestBreaths iM_orderMany iM_orderSum iM_leastOrder rM_often iM_setMany iM_someOf iM_allOf iM_allWeight iM_enoughWeight iM_worthSum iM_firstRest iM_leastDrawn), (arI rM_r kM_r 287 fM_r)] sz) := by
  refine Met.ofW (cc := cX7_rest) (maxL := 3) (ret := (some .int)) pnX7 rfl ?_
  intro p e s m args below meth c s₁ B hml hv
  obtain ⟨rfl, hsz, hP, hK, hD0, hE⟩ := hv
  have hx := B.exec
  have hb := B.bytes
  have hr := B.returns
  have hts : ∀ w ∈ wG, w.before ([.ref oM, .int p0] : List Value).toArray s = true := fun w h => atoms_spec (ws := Cond.code yX7_rest cX7_rest 3 (some .int) :: wG) B.pre w (List.mem_cons_of_mem _ h)
  have hown : s.vm.findClass RX7 = some m.cls := own_of B.named rfl
  have hlocks := B.notSynchronized
  subst hsz
  have hD := hD0.self (sz := s.heap.size)
  generalize hAe : va_A [(oc7 oM iM_thrown rM_tape iM_taped iM_size iM_at iM_end iM_token iM_whole iM_nameSize iM_fault iM_place iM_trouble rM_letters iM_failed iM_hasCourt rM_r rM_fresh rM_told rM_read rM_st rM_undone rM_kept iM_undos iM_images rM_fresher iM_fresherSize iM_scale iM_night rM_heardRow rM_cutRow iM_breaths iM_cutMany iM_allBreaths rM_trial rM_words iM_fewestBreaths iM_orderMany iM_orderSum iM_leastOrder rM_often iM_setMany iM_someOf iM_allOf iM_allWeight iM_enoughWeight iM_worthSum iM_firstRest iM_leastDrawn), (arI rM_r kM_r 287 fM_r)] s.heap.size = A at hD hE ⊢
  have hA : ∀ q : Nat, s.heap.size ≤ q → A q := fun q h => by rw [← hAe]; exact Or.inr h
  have hS : va_S A s.heap s.heap [] := va_S.rf
  have hl := lv_entry ([.ref oM, .int p0]) (n := 3) (Nat.le_of_ble_eq_true rfl)
  rw [lg_entry_eq]
  generalize (lg_sl ([.ref oM, .int p0]) ++ List.replicate (3 - (lg_sl ([.ref oM, .int p0])).length) Slot.unset).toArray = ls at hl ⊢
  have hl : lv_has ls 3 [(0, .ref oM), (1, .int p0)] := hl
  have hG := PX7_rest_eq iM_hasCourt iM_firstRest p0
  have s_slips := r_R.slips
  have s_nodes := r_R.nodes
  have s_uns := r_R.uns
  refine lv_aload_n hx hb dX7_rest_0 rfl (lv_at hl 0 rfl) ?_
  have hMs := ml_of hD [true, false] (wc := [(oc7 oM iM_thrown rM_tape iM_taped iM_size iM_at iM_end iM_token iM_whole iM_nameSize iM_fault iM_place iM_trouble rM_letters iM_failed iM_hasCourt rM_r rM_fresh rM_told rM_read rM_st rM_undone rM_kept iM_undos iM_images rM_fresher iM_fresherSize iM_scale iM_night rM_heardRow rM_cutRow iM_breaths iM_cutMany iM_allBreaths rM_trial rM_words iM_fewestBreaths iM_orderMany iM_orderSum iM_leastOrder rM_often iM_setMany iM_someOf iM_allOf iM_allWeight iM_enoughWeight iM_worthSum iM_firstRest iM_leastDrawn)]) rfl
  have hFc := va_freeM hD hS hA _ hMs
  refine va_callv (va_runV (As := []) (rest := []) ⟨hx, hb, hml, hown, hts⟩ (tX7_good l dC dI _ oM iM_thrown rM_tape iM_taped iM_size iM_at iM_end iM_token iM_whole iM_nameSize iM_fault iM_place iM_trouble rM_letters iM_failed iM_hasCourt rM_r rM_fresh rM_told rM_read rM_st rM_undone rM_kept iM_undos iM_images rM_fresher iM_fresherSize iM_scale iM_night rM_heardRow rM_cutRow iM_breaths iM_cutMany iM_allBreaths rM_trial rM_words iM_fewestBreaths iM_orderMany iM_orderSum iM_leastOrder rM_often iM_setMany iM_someOf iM_allOf iM_allWeight iM_enoughWeight iM_worthSum iM_firstRest iM_leastDrawn b_iM_taped b_iM_size b_iM_end b_iM_failed b_iM_hasCourt b_iM_undos b_iM_images b_iM_scale b_iM_breaths b_iM_cutMany) (cwV 0 hts (wd_V wd_388 wd_389 wd_390 wd_5 (wd_c wd_391)) rfl rfl rfl dv_yX7_good_0 ⟨Nat.le_of_ble_eq_true rfl, Nat.le_of_ble_eq_true rfl⟩) ⟨Pw.fb, recvX7 hK hP (q0 := 0) rfl, fun U hU hW => Pw.to (hP.ms _ hMs) (hD.ms _ hMs) (hK.ms [false] rfl) hE hS hFc hU hW⟩ rfl rfl hl.1 rfl (lv_room (Nat.le_of_ble_eq_true rfl)) dX7_rest_1 ⟨Nat.le_of_ble_eq_true rfl, Nat.le_of_ble_eq_true rfl⟩) hS (fun q _ h => hFc q h) hFc (fun u t H locs ht hvm hw hB hz1 hk1 hS => ?_)
  refine ex_2_3 hB (fun x_3194 x_3195 b_x_3194 b_x_3195 e_x_3194_0 hB => ?_)
  obtain ⟨hP, hD⟩ := Bw.goN (ws' := [(oc7 oM x_3194 rM_tape iM_taped iM_size iM_at iM_end iM_token iM_whole iM_nameSize iM_fault iM_place x_3195 rM_letters iM_failed iM_hasCourt rM_r rM_fresh rM_told rM_read rM_st rM_undone rM_kept iM_undos iM_images rM_fresher iM_fresherSize iM_scale iM_night rM_heardRow rM_cutRow iM_breaths iM_cutMany iM_allBreaths rM_trial rM_words iM_fewestBreaths iM_orderMany iM_orderSum iM_leastOrder rM_often iM_setMany iM_someOf iM_allOf iM_allWeight iM_enoughWeight iM_worthSum iM_firstRest iM_leastDrawn), (arI rM_r kM_r 287 fM_r)]) hB rfl ht hP hD _ hMs hk1 hFc rfl
  clear hz1 hk1 hvm ht hB hMs
  have hG := hG.trans (un2_eq e_x_3194_0)
  refine lv_aload_n hx hb dX7_rest_4 rfl (lv_at hl 0 rfl) ?_
  refine lv_iload_n hx hb dX7_rest_5 rfl (lv_at hl 1 rfl) ?_
  refine lv_iconst (v := 0) hx hb dX7_rest_6 (by decide) ?_
  refine lv_bipush (v := 9) hx hb dX7_rest_7 (by decide) ?_
  have hFc : ∀ q, va_A [] _ q → A q := fun q h => hA q (Nat.le_trans hS.1 (va_nilA h))
  refine va_calli (va_runS (As := [.int p0, .int 0, .int 9]) (rest := [.ref oM]) ⟨hx, hb, hml, hown, hts⟩ (tX7_in l dC dI _ p0 0 9 ) (va_cwS 3 hts (wd_S wd_393 wd_394 wd_5 (wd_c wd_395)) rfl rfl rfl ds_yX7_in_3 ⟨Nat.le_of_ble_eq_true rfl, Nat.le_of_ble_eq_true rfl⟩) ⟨Pw.fb, fun U hU hW => Pn.to hK hE hS hA hU hW⟩ rfl rfl hl.1 rfl (lv_room (Nat.le_of_ble_eq_true rfl)) dX7_rest_9 ⟨Nat.le_of_ble_eq_true rfl, Nat.le_of_ble_eq_true rfl⟩) hS (fun q _ h => hFc q h) hFc (fun r u t H locs ht hvm hw hB hz1 hk1 hS => ?_)
  obtain ⟨hP, hD, hK⟩ := Bw.same ht hvm hP hD hK hk1 hFc
  clear hz1 hk1 hvm ht hB
  have hq9 := hw.2
  have hw := hw.1
  obtain ⟨x_3196, rfl⟩ : ∃ z, z = r := ⟨_, rfl⟩
  have hq_x_3196 := hq9
  have hG := hG.trans (lt_eq hq_x_3196.symm)
  have bx_3196 := hw.1
  have dx_3196 := bz_tb bx_3196
  have px_3196 := hw.2
  have hFc := va_freeI hD hS hA
  refine va_calli (va_runV (As := [.int x_3196]) (rest := []) ⟨hx, hb, hml, hown, hts⟩ (tX7_why l dC dI _ oM x_3194 rM_tape iM_taped iM_size iM_at iM_end iM_token iM_whole iM_nameSize iM_fault iM_place x_3195 rM_letters iM_failed iM_hasCourt rM_r fM_r kM_r rM_fresh rM_told rM_read rM_st rM_undone rM_kept iM_undos iM_images rM_fresher iM_fresherSize iM_scale iM_night rM_heardRow rM_cutRow iM_breaths iM_cutMany iM_allBreaths rM_trial rM_words iM_fewestBreaths iM_orderMany iM_orderSum iM_leastOrder rM_often iM_setMany iM_someOf iM_allOf iM_allWeight iM_enoughWeight iM_worthSum iM_firstRest iM_leastDrawn x_3196 b_iM_taped b_iM_size b_iM_end b_iM_failed b_iM_hasCourt b_iM_undos b_iM_images b_iM_scale b_iM_breaths b_iM_cutMany (by assumption) (by assumption) ⟨dx_3196.1, dx_3196.2⟩) (cwV 1 hts (wd_V wd_882 wd_883 wd_884 wd_5 (wd_c wd_885)) rfl rfl rfl dv_yX7_why_1 ⟨Nat.le_of_ble_eq_true rfl, Nat.le_of_ble_eq_true rfl⟩) ⟨Pw.fb, recvX7 hK hP (q0 := 0) rfl, fun U hU hW => Pw.to hP hD hK hE hS hFc hU hW⟩ rfl rfl hl.1 rfl (lv_room (Nat.le_of_ble_eq_true rfl)) dX7_rest_12 ⟨Nat.le_of_ble_eq_true rfl, Nat.le_of_ble_eq_true rfl⟩) hS (fun q _ h => hFc q h) hFc (fun r u t H locs ht hvm hw hB hz1 hk1 hS => ?_)
  have hru9 := hw.2
  have hw := hw.1
  obtain ⟨hP, hD⟩ := Bw.goA (ws' := [(oc7 oM x_3194 rM_tape iM_taped iM_size iM_at iM_end iM_token iM_whole iM_nameSize iM_fault iM_place x_3195 rM_letters iM_failed iM_hasCourt rM_r rM_fresh rM_told rM_read rM_st rM_undone rM_kept iM_undos iM_images rM_fresher iM_fresherSize iM_scale iM_night rM_heardRow rM_cutRow iM_breaths iM_cutMany iM_allBreaths rM_trial rM_words iM_fewestBreaths iM_orderMany iM_orderSum iM_leastOrder rM_often iM_setMany iM_someOf iM_allOf iM_allWeight iM_enoughWeight iM_worthSum iM_firstRest iM_leastDrawn), (arI rM_r kM_r 287 fM_r)]) hB rfl ht hFc rfl
  clear hz1 hk1 hvm ht hB
  rcases hw.2 with ⟨rfl, hc_3197⟩ | ⟨rfl, hc_3197⟩ | ⟨rfl, hc_3197⟩
  · skip
    have hG := hG.trans (lt_eq hru9.symm)
    have hG := hG.trans (if_pos rfl)
    refine lv_istore_n (lv' := [(2, .int 0), (0, .ref oM), (1, .int p0)]) hx hb dX7_rest_15 rfl hl (by decide) rfl (fun ls hl => ?_)
    refine lv_iload_n hx hb dX7_rest_16 rfl (lv_at hl 0 rfl) ?_
    refine lv_if_eq (tgt := 26) hx hb dX7_rest_17 (by decide) (fun _ => ?_) (fun c => absurd c (by decide))
    refine lv_aload_n hx hb dX7_rest_26 rfl (lv_at hl 1 rfl) ?_
    refine lv_iload_n hx hb dX7_rest_27 rfl (lv_at hl 2 rfl) ?_
    have hMs := ml_of hD [true, false] (wc := [(oc7 oM x_3194 rM_tape iM_taped iM_size iM_at iM_end iM_token iM_whole iM_nameSize iM_fault iM_place x_3195 rM_letters iM_failed iM_hasCourt rM_r rM_fresh rM_told rM_read rM_st rM_undone rM_kept iM_undos iM_images rM_fresher iM_fresherSize iM_scale iM_night rM_heardRow rM_cutRow iM_breaths iM_cutMany iM_allBreaths rM_trial rM_words iM_fewestBreaths iM_orderMany iM_orderSum iM_leastOrder rM_often iM_setMany iM_someOf iM_allOf iM_allWeight iM_enoughWeight iM_worthSum iM_firstRest iM_leastDrawn)]) rfl
    have hFc := va_freeM hD hS hA _ hMs
    refine va_calli (va_runV (As := [.int p0]) (rest := []) ⟨hx, hb, hml, hown, hts⟩ (tX7_seekRests l dC dI _ oM x_3194 rM_tape iM_taped iM_size iM_at iM_end iM_token iM_whole iM_nameSize iM_fault iM_place x_3195 rM_letters iM_failed iM_hasCourt rM_r rM_fresh rM_told rM_read rM_st rM_undone rM_kept iM_undos iM_images rM_fresher iM_fresherSize iM_scale iM_night rM_heardRow rM_cutRow iM_breaths iM_cutMany iM_allBreaths rM_trial rM_words iM_fewestBreaths iM_orderMany iM_orderSum iM_leastOrder rM_often iM_setMany iM_someOf iM_allOf iM_allWeight iM_enoughWeight iM_worthSum iM_firstRest iM_leastDrawn p0 b_iM_taped b_iM_size b_iM_end b_iM_failed b_iM_hasCourt b_iM_undos b_iM_images b_iM_scale b_iM_breaths b_iM_cutMany) (cwV 1 hts (wd_V wd_1311 wd_1312 wd_1313 wd_5 (wd_c wd_1314)) rfl rfl rfl dv_yX7_seekRests_1 ⟨Nat.le_of_ble_eq_true rfl, Nat.le_of_ble_eq_true rfl⟩) ⟨Pw.fb, recvX7 hK hP (q0 := 0) rfl, fun U hU hW => Pw.to (hP.ms _ hMs) (hD.ms _ hMs) (hK.ms [false] rfl) hE hS hFc hU hW⟩ rfl rfl hl.1 rfl (lv_room (Nat.le_of_ble_eq_true rfl)) dX7_rest_28 ⟨Nat.le_of_ble_eq_true rfl, Nat.le_of_ble_eq_true rfl⟩) hS (fun q _ h => hFc q h) hFc (fun r u t H locs ht hvm hw hB hz1 hk1 hS => ?_)
    have hru9 := hw.2
    have hw := hw.1
    refine ex_1_1 hB (fun x_3200 e_x_3200_0 hB => ?_)
    obtain ⟨hP, hD⟩ := Bw.goN (ws' := [(oc7 oM x_3194 rM_tape iM_taped iM_size iM_at iM_end iM_token iM_whole iM_nameSize iM_fault iM_place x_3195 rM_letters iM_failed iM_hasCourt rM_r rM_fresh rM_told rM_read rM_st rM_undone rM_kept iM_undos iM_images rM_fresher iM_fresherSize iM_scale iM_night rM_heardRow rM_cutRow iM_breaths iM_cutMany iM_allBreaths rM_trial rM_words iM_fewestBreaths iM_orderMany iM_orderSum iM_leastOrder rM_often iM_setMany iM_someOf iM_allOf iM_allWeight iM_enoughWeight iM_worthSum x_3200 iM_leastDrawn), (arI rM_r kM_r 287 fM_r)]) hB rfl ht hP hD _ hMs hk1 hFc rfl
    clear hz1 hk1 hvm ht hB hMs
    rw [← hru9] at e_x_3200_0
    obtain ⟨x_3201, rfl⟩ : ∃ z, z = r := ⟨_, rfl⟩
    have hG := hG.trans (un2_eq e_x_3200_0)
    refine lv_pop hx hb dX7_rest_31 rfl ?_
    refine lv_aload_n hx hb dX7_rest_32 rfl (lv_at hl 1 rfl) ?_
    refine va_get (D := (dC, dI)) (ci := 7) (v := .int x_3200) (C := RX7) (T := TX7) (N := 48) hx hb hts inX7 hown hK hP 0 rfl rfl 46 (by decide) (hts _ wd_1315) (fun _ h9 => h9) rfl dX7_rest_33 ?_
    exact wq_i hx hb hr (cI x_3200) ⟨⟨trivial, trivial⟩, (cI_of x_3200)⟩ (fun t ht hW => ⟨x_3194, x_3195, x_3200, (cI_tup hG), Bw.to hP hD hK ht hW⟩) hS dX7_rest_36 hlocks
  · skip
    have hG := hG.trans (lt_eq hru9.symm)
    have hG := hG.trans (if_neg (by decide))
    have hG := hG.trans (if_pos rfl)
    refine lv_istore_n (lv' := [(2, .int 1), (0, .ref oM), (1, .int p0)]) hx hb dX7_rest_15 rfl hl (by decide) rfl (fun ls hl => ?_)
    refine lv_iload_n hx hb dX7_rest_16 rfl (lv_at hl 0 rfl) ?_
    refine lv_if_eq (tgt := 26) hx hb dX7_rest_17 (by decide) (fun c => absurd c (by decide)) (fun _ => ?_)
    refine lv_aload_n hx hb dX7_rest_20 rfl (lv_at hl 1 rfl) ?_
    refine lv_iload_n hx hb dX7_rest_21 rfl (lv_at hl 0 rfl) ?_
    have hMs := ml_of hD [true, false] (wc := [(oc7 oM x_3194 rM_tape iM_taped iM_size iM_at iM_end iM_token iM_whole iM_nameSize iM_fault iM_place x_3195 rM_letters iM_failed iM_hasCourt rM_r rM_fresh rM_told rM_read rM_st rM_undone rM_kept iM_undos iM_images rM_fresher iM_fresherSize iM_scale iM_night rM_heardRow rM_cutRow iM_breaths iM_cutMany iM_allBreaths rM_trial rM_words iM_fewestBreaths iM_orderMany iM_orderSum iM_leastOrder rM_often iM_setMany iM_someOf iM_allOf iM_allWeight iM_enoughWeight iM_worthSum iM_firstRest iM_leastDrawn)]) rfl
    have hFc := va_freeM hD hS hA _ hMs
    refine va_calli (va_runV (As := [.int 1]) (rest := []) ⟨hx, hb, hml, hown, hts⟩ (tX7_no l dC dI _ oM x_3194 rM_tape iM_taped iM_size iM_at iM_end iM_token iM_whole iM_nameSize iM_fault iM_place x_3195 rM_letters iM_failed iM_hasCourt rM_r rM_fresh rM_told rM_read rM_st rM_undone rM_kept iM_undos iM_images rM_fresher iM_fresherSize iM_scale iM_night rM_heardRow rM_cutRow iM_breaths iM_cutMany iM_allBreaths rM_trial rM_words iM_fewestBreaths iM_orderMany iM_orderSum iM_leastOrder rM_often iM_setMany iM_someOf iM_allOf iM_allWeight iM_enoughWeight iM_worthSum iM_firstRest iM_leastDrawn 1 b_iM_taped b_iM_size b_iM_end b_iM_failed b_iM_hasCourt b_iM_undos b_iM_images b_iM_scale b_iM_breaths b_iM_cutMany) (cwV 1 hts (wd_V wd_396 wd_397 wd_398 wd_5 (wd_c wd_399)) rfl rfl rfl dv_yX7_no_1 ⟨Nat.le_of_ble_eq_true rfl, Nat.le_of_ble_eq_true rfl⟩) ⟨Pw.fb, recvX7 hK hP (q0 := 0) rfl, fun U hU hW => Pw.to (hP.ms _ hMs) (hD.ms _ hMs) (hK.ms [false] rfl) hE hS hFc hU hW⟩ rfl rfl hl.1 rfl (lv_room (Nat.le_of_ble_eq_true rfl)) dX7_rest_22 ⟨Nat.le_of_ble_eq_true rfl, Nat.le_of_ble_eq_true rfl⟩) hS (fun q _ h => hFc q h) hFc (fun r u t H locs ht hvm hw hB hz1 hk1 hS => ?_)
    have hru9 := hw.2
    have hw := hw.1
    refine ex_1_1 hB (fun x_3203 e_x_3203_0 hB => ?_)
    obtain ⟨hP, hD⟩ := Bw.goN (ws' := [(oc7 oM x_3194 rM_tape iM_taped iM_size iM_at iM_end iM_token iM_whole iM_nameSize iM_fault iM_place x_3203 rM_letters iM_failed iM_hasCourt rM_r rM_fresh rM_told rM_read rM_st rM_undone rM_kept iM_undos iM_images rM_fresher iM_fresherSize iM_scale iM_night rM_heardRow rM_cutRow iM_breaths iM_cutMany iM_allBreaths rM_trial rM_words iM_fewestBreaths iM_orderMany iM_orderSum iM_leastOrder rM_often iM_setMany iM_someOf iM_allOf iM_allWeight iM_enoughWeight iM_worthSum iM_firstRest iM_leastDrawn), (arI rM_r kM_r 287 fM_r)]) hB rfl ht hP hD _ hMs hk1 hFc rfl
    clear hz1 hk1 hvm ht hB hMs
    rw [← hru9] at e_x_3203_0
    obtain ⟨x_3204, rfl⟩ : ∃ z, z = r := ⟨_, rfl⟩
    have hG := hG.trans (un2_eq e_x_3203_0)
    exact wq_i hx hb hr (cI x_3204) ⟨⟨trivial, trivial⟩, (cI_of x_3204)⟩ (fun t ht hW => ⟨x_3194, x_3203, iM_firstRest, (cI_tup hG), Bw.to hP hD hK ht hW⟩) hS dX7_rest_25 hlocks
  · skip
    have hG := hG.trans (lt_eq hru9.symm)
    have hG := hG.trans (if_neg (by decide))
    have hG := hG.trans (if_neg (by decide))
    refine lv_istore_n (lv' := [(2, .int 2), (0, .ref oM), (1, .int p0)]) hx hb dX7_rest_15 rfl hl (by decide) rfl (fun ls hl => ?_)
    refine lv_iload_n hx hb dX7_rest_16 rfl (lv_at hl 0 rfl) ?_
    refine lv_if_eq (tgt := 26) hx hb dX7_rest_17 (by decide) (fun c => absurd c (by decide)) (fun _ => ?_)
    refine lv_aload_n hx hb dX7_rest_20 rfl (lv_at hl 1 rfl) ?_
    refine lv_iload_n hx hb dX7_rest_21 rfl (lv_at hl 0 rfl) ?_
    have hMs := ml_of hD [true, false] (wc := [(oc7 oM x_3194 rM_tape iM_taped iM_size iM_at iM_end iM_token iM_whole iM_nameSize iM_fault iM_place x_3195 rM_letters iM_failed iM_hasCourt rM_r rM_fresh rM_told rM_read rM_st rM_undone rM_kept iM_undos iM_images rM_fresher iM_fresherSize iM_scale iM_night rM_heardRow rM_cutRow iM_breaths iM_cutMany iM_allBreaths rM_trial rM_words iM_fewestBreaths iM_orderMany iM_orderSum iM_leastOrder rM_often iM_setMany iM_someOf iM_allOf iM_allWeight iM_enoughWeight iM_worthSum iM_firstRest iM_leastDrawn)]) rfl
    have hFc := va_freeM hD hS hA _ hMs
    refine va_calli (va_runV (As := [.int 2]) (rest := []) ⟨hx, hb, hml, hown, hts⟩ (tX7_no l dC dI _ oM x_3194 rM_tape iM_taped iM_size iM_at iM_end iM_token iM_whole iM_nameSize iM_fault iM_place x_3195 rM_letters iM_failed iM_hasCourt rM_r rM_fresh rM_told rM_read rM_st rM_undone rM_kept iM_undos iM_images rM_fresher iM_fresherSize iM_scale iM_night rM_heardRow rM_cutRow iM_breaths iM_cutMany iM_allBreaths rM_trial rM_words iM_fewestBreaths iM_orderMany iM_orderSum iM_leastOrder rM_often iM_setMany iM_someOf iM_allOf iM_allWeight iM_enoughWeight iM_worthSum iM_firstRest iM_leastDrawn 2 b_iM_taped b_iM_size b_iM_end b_iM_failed b_iM_hasCourt b_iM_undos b_iM_images b_iM_scale b_iM_breaths b_iM_cutMany) (cwV 1 hts (wd_V wd_396 wd_397 wd_398 wd_5 (wd_c wd_399)) rfl rfl rfl dv_yX7_no_1 ⟨Nat.le_of_ble_eq_true rfl, Nat.le_of_ble_eq_true rfl⟩) ⟨Pw.fb, recvX7 hK hP (q0 := 0) rfl, fun U hU hW => Pw.to (hP.ms _ hMs) (hD.ms _ hMs) (hK.ms [false] rfl) hE hS hFc hU hW⟩ rfl rfl hl.1 rfl (lv_room (Nat.le_of_ble_eq_true rfl)) dX7_rest_22 ⟨Nat.le_of_ble_eq_true rfl, Nat.le_of_ble_eq_true rfl⟩) hS (fun q _ h => hFc q h) hFc (fun r u t H locs ht hvm hw hB hz1 hk1 hS => ?_)
    have hru9 := hw.2
    have hw := hw.1
    refine ex_1_1 hB (fun x_3206 e_x_3206_0 hB => ?_)
    obtain ⟨hP, hD⟩ := Bw.goN (ws' := [(oc7 oM x_3194 rM_tape iM_taped iM_size iM_at iM_end iM_token iM_whole iM_nameSize iM_fault iM_place x_3206 rM_letters iM_failed iM_hasCourt rM_r rM_fresh rM_told rM_read rM_st rM_undone rM_kept iM_undos iM_images rM_fresher iM_fresherSize iM_scale iM_night rM_heardRow rM_cutRow iM_breaths iM_cutMany iM_allBreaths rM_trial rM_words iM_fewestBreaths iM_orderMany iM_orderSum iM_leastOrder rM_often iM_setMany iM_someOf iM_allOf iM_allWeight iM_enoughWeight iM_worthSum iM_firstRest iM_leastDrawn), (arI rM_r kM_r 287 fM_r)]) hB rfl ht hP hD _ hMs hk1 hFc rfl
    clear hz1 hk1 hvm ht hB hMs
    rw [← hru9] at e_x_3206_0
    obtain ⟨x_3207, rfl⟩ : ∃ z, z = r := ⟨_, rfl⟩
    have hG := hG.trans (un2_eq e_x_3206_0)
    exact wq_i hx hb hr (cI x_3207) ⟨⟨trivial, trivial⟩, (cI_of x_3207)⟩ (fun t ht hW => ⟨x_3194, x_3206, iM_firstRest, (cI_tup hG), Bw.to hP hD hK ht hW⟩) hS dX7_rest_25 hlocks
set_option maxHeartbeats 4000000 in
set_option maxRecDepth 100000 in
theorem tX7_fault (l : Launch) (dC : Nat → ClassId) (dI : Nat → Nat → Nat) (sz : Nat) (oM : Nat) (iM_thrown : Int32) (rM_tape : Nat) (iM_taped : Int32) (iM_size : Int32) (iM_at : Int32) (iM_end : Int32) (iM_token : Int32) (iM_whole : Int32) (iM_nameSize : Int32) (iM_fault : Int32) (iM_place : Int32) (iM_trouble : Int32) (rM_letters : Nat) (iM_failed : Int32) (iM_hasCourt : Int32) (rM_r : Nat) (rM_fresh : Nat) (rM_told : Nat) (rM_read : Nat) (rM_st : Nat) (rM_undone : Nat) (rM_kept : Nat) (iM_undos : Int32) (iM_images : Int32) (rM_fresher : Nat) (iM_fresherSize : Int32) (iM_scale : Int32) (iM_night : Int32) (rM_heardRow : Nat) (rM_cutRow : Nat) (iM_breaths : Int32) (iM_cutMany : Int32) (iM_allBreaths : Int32) (rM_trial : Nat) (rM_words : Nat) (iM_fewestBreaths : Int32) (iM_orderMany : Int32) (iM_orderSum : Int32) (iM_leastOrder : Int32) (rM_often : Nat) (iM_setMany : Int32) (iM_someOf : Int32) (iM_allOf : Int32) (iM_allWeight : Int64) (iM_enoughWeight : Int64) (iM_worthSum : Int64) (iM_firstRest : Int32) (iM_leastDrawn : Int32) (b_iM_taped : 0 ≤ iM_taped.toInt ∧ iM_taped.toInt ≤ 900) (b_iM_size : 0 ≤ iM_size.toInt ∧ iM_size.toInt ≤ 900) (b_iM_end : 0 ≤ iM_end.toInt ∧ iM_end.toInt ≤ 900) (b_iM_failed : 0 ≤ iM_failed.toInt ∧ iM_failed.toInt ≤ 1) (b_iM_hasCourt : 0 ≤ iM_hasCourt.toInt ∧ iM_hasCourt.toInt ≤ 1) (b_iM_undos : 0 ≤ iM_undos.toInt ∧ iM_undos.toInt ≤ 16) (b_iM_images : 0 ≤ iM_images.toInt ∧ iM_images.toInt ≤ 3) (b_iM_scale : 1 ≤ iM_scale.toInt ∧ iM_scale.toInt ≤ 1296) (b_iM_breaths : 0 ≤ iM_breaths.toInt ∧ iM_breaths.toInt ≤ 399) (b_iM_cutMany : 0 ≤ iM_cutMany.toInt ∧ iM_cutMany.toInt ≤ 399)  : Met l yX7_fault (Cond.code yX7_fault cX7_fault 1 (some .int) :: wG) ({ frames := 0, cells := 0, slots := 0, locals := 0 }) (va_Pc [.ref oM] (Pw dC dI sz [(oc7 oM iM_thrown rM_tape iM_taped iM_size iM_at iM_end iM_token iM_whole iM_nameSize iM_fault iM_place iM_trouble rM_letters iM_failed iM_hasCourt rM_r rM_fresh rM_told rM_read rM_st rM_undone rM_kept iM_undos iM_images rM_fresher iM_fresherSize iM_scale iM_night rM_heardRow rM_cutRow iM_breaths iM_cutMany iM_allBreaths rM_trial rM_words iM_fewestBreaths iM_orderMany iM_orderSum iM_leastOrder rM_often iM_setMany iM_someOf iM_allOf iM_allWeight iM_enoughWeight iM_worthSum iM_firstRest iM_leastDrawn)] [])) (va_Qi (fun (r : Int32) (u : Nat) => (True ∧ True) ∧ r = Int32.ofNat u) (fun (u : Nat) (t : State) => ∃ (niM_thrown : Int32), (0 ≤ niM_thrown.toInt ∧ niM_thrown.toInt ≤ 0) ∧ (PX7_fault iM_fault = (Int32.ofNat u, niM_thrown)) ∧ Bw dC dI (va_A [(oc7 oM iM_thrown rM_tape iM_taped iM_size iM_at iM_end iM_token iM_whole iM_nameSize iM_fault iM_place iM_trouble rM_letters iM_failed iM_hasCourt rM_r rM_fresh rM_told rM_read rM_st rM_undone rM_kept iM_undos iM_images rM_fresher iM_fresherSize iM_scale iM_night rM_heardRow rM_cutRow iM_breaths iM_cutMany iM_allBreaths rM_trial rM_words iM_fewestBreaths iM_orderMany iM_orderSum iM_leastOrder rM_often iM_setMany iM_someOf iM_allOf iM_allWeight iM_enoughWeight iM_worthSum iM_firstRest iM_leastDrawn)] sz) [(oc7 oM niM_thrown rM_tape iM_taped iM_size iM_at iM_end iM_token iM_whole iM_nameSize iM_fault iM_place iM_trouble rM_letters iM_failed iM_hasCourt rM_r rM_fresh rM_told rM_read rM_st rM_undone rM_kept iM_undos iM_images rM_fresher iM_fresherSize iM_scale iM_night rM_heardRow rM_cutRow iM_breaths iM_cutMany iM_allBreaths rM_trial rM_words iM_fewestBreaths iM_orderMany iM_orderSum iM_leastOrder rM_often iM_setMany iM_someOf iM_allOf iM_allWeight iM_enoughWeight iM_worthSum iM_firstRest iM_leastDrawn)] [] t) (va_A [(oc7 oM iM_thrown rM_tape iM_taped iM_size iM_at iM_end iM_token iM_whole iM_nameSize iM_fault iM_place iM_trouble rM_letters iM_failed iM_hasCourt rM_r rM_fresh rM_told rM_read rM_st rM_undone rM_kept iM_undos iM_images rM_fresher iM_fresherSize iM_scale iM_night rM_heardRow rM_cutRow iM_breaths iM_cutMany iM_allBreaths rM_trial rM_words iM_fewestBreaths iM_orderMany iM_orderSum iM_leastOrder rM_often iM_setMany iM_someOf iM_allOf iM_allWeight iM_enoughWeight iM_worthSum iM_firstRest iM_leastDrawn)] sz)) 0 0 (va_A [(oc7 oM iM_thrown rM_tape iM_taped iM_size iM_at iM_end iM_token iM_whole iM_nameSize iM_fault iM_place iM_trouble rM_letters iM_failed iM_hasCourt rM_r rM_fresh rM_told rM_read rM_st rM_undone rM_kept iM_undos iM_images rM_fresher iM_fresherSize iM_scale iM_night rM_heardRow rM_cutRow iM_breaths iM_cutMany iM_allBreaths rM_trial rM_words iM_fewestBreaths iM_orderMany iM_orderSum iM_leastOrder rM_often iM_setMany iM_someOf iM_allOf iM_allWeight iM_enoughWeight iM_worthSum iM_firstRest iM_leastDrawn)] sz) := by
  refine Met.ofW (cc := cX7_fault) (maxL := 1) (ret := (some .int)) pnX7 rfl ?_
  intro p e s m args below meth c s₁ B hml hv
  obtain ⟨rfl, hsz, hP, hK, hD0, hE⟩ := hv
  have hx := B.exec
  have hb := B.bytes
  have hr := B.returns
  have hts : ∀ w ∈ wG, w.before ([.ref oM] : List Value).toArray s = true := fun w h => atoms_spec (ws := Cond.code yX7_fault cX7_fault 1 (some .int) :: wG) B.pre w (List.mem_cons_of_mem _ h)
  have hown : s.vm.findClass RX7 = some m.cls := own_of B.named rfl
  have hlocks := B.notSynchronized
  subst hsz
  have hD := hD0.self (sz := s.heap.size)
  generalize hAe : va_A [(oc7 oM iM_thrown rM_tape iM_taped iM_size iM_at iM_end iM_token iM_whole iM_nameSize iM_fault iM_place iM_trouble rM_letters iM_failed iM_hasCourt rM_r rM_fresh rM_told rM_read rM_st rM_undone rM_kept iM_undos iM_images rM_fresher iM_fresherSize iM_scale iM_night rM_heardRow rM_cutRow iM_breaths iM_cutMany iM_allBreaths rM_trial rM_words iM_fewestBreaths iM_orderMany iM_orderSum iM_leastOrder rM_often iM_setMany iM_someOf iM_allOf iM_allWeight iM_enoughWeight iM_worthSum iM_firstRest iM_leastDrawn)] s.heap.size = A at hD hE ⊢
  have hA : ∀ q : Nat, s.heap.size ≤ q → A q := fun q h => by rw [← hAe]; exact Or.inr h
  have hS : va_S A s.heap s.heap [] := va_S.rf
  have hl := lv_entry ([.ref oM]) (n := 1) (Nat.le_of_ble_eq_true rfl)
  rw [lg_entry_eq]
  generalize (lg_sl ([.ref oM]) ++ List.replicate (1 - (lg_sl ([.ref oM])).length) Slot.unset).toArray = ls at hl ⊢
  have hl : lv_has ls 1 [(0, .ref oM)] := hl
  have hG := PX7_fault_eq iM_fault
  refine lv_aload_n hx hb dX7_fault_0 rfl (lv_at hl 0 rfl) ?_
  refine lv_iconst (v := 0) hx hb dX7_fault_1 (by decide) ?_
  refine va_put (D := (dC, dI)) (ci := 7) (v := .int 0) (ty := .int) (C := RX7) (T := TX7) (N := 48) hx hb hts inX7 tyX7 tyX7_ok nmX7 hown hK hP hD hS 0 rfl rfl 0 (by decide) (hts _ wd_184) (fun _ h9 => h9) rfl (by decide +kernel) rfl rfl (Nat.le_of_ble_eq_true rfl) dX7_fault_2 (fun H locs hP hD hS => ?_)
  obtain ⟨hP, hD⟩ := wl2 (ws' := [(oc7 oM 0 rM_tape iM_taped iM_size iM_at iM_end iM_token iM_whole iM_nameSize iM_fault iM_place iM_trouble rM_letters iM_failed iM_hasCourt rM_r rM_fresh rM_told rM_read rM_st rM_undone rM_kept iM_undos iM_images rM_fresher iM_fresherSize iM_scale iM_night rM_heardRow rM_cutRow iM_breaths iM_cutMany iM_allBreaths rM_trial rM_words iM_fewestBreaths iM_orderMany iM_orderSum iM_leastOrder rM_often iM_setMany iM_someOf iM_allOf iM_allWeight iM_enoughWeight iM_worthSum iM_firstRest iM_leastDrawn)]) hP hD rfl
  refine lv_aload_n hx hb dX7_fault_5 rfl (lv_at hl 0 rfl) ?_
  refine va_get (D := (dC, dI)) (ci := 7) (v := .int iM_fault) (C := RX7) (T := TX7) (N := 48) hx hb hts inX7 hown hK hP 0 rfl rfl 9 (by decide) (hts _ wd_379) (fun _ h9 => h9) rfl dX7_fault_6 ?_
  exact wq_i hx hb hr (cI iM_fault) ⟨⟨trivial, trivial⟩, (cI_of iM_fault)⟩ (fun t ht hW => ⟨0, (by decide), (cI_tup hG), Bw.to hP hD hK ht hW⟩) hS dX7_fault_9 hlocks
set_option maxHeartbeats 4000000 in
set_option maxRecDepth 100000 in
theorem tX7_where (l : Launch) (dC : Nat → ClassId) (dI : Nat → Nat → Nat) (sz : Nat) (oM : Nat) (iM_thrown : Int32) (rM_tape : Nat) (iM_taped : Int32) (iM_size : Int32) (iM_at : Int32) (iM_end : Int32) (iM_token : Int32) (iM_whole : Int32) (iM_nameSize : Int32) (iM_fault : Int32) (iM_place : Int32) (iM_trouble : Int32) (rM_letters : Nat) (iM_failed : Int32) (iM_hasCourt : Int32) (rM_r : Nat) (rM_fresh : Nat) (rM_told : Nat) (rM_read : Nat) (rM_st : Nat) (rM_undone : Nat) (rM_kept : Nat) (iM_undos : Int32) (iM_images : Int32) (rM_fresher : Nat) (iM_fresherSize : Int32) (iM_scale : Int32) (iM_night : Int32) (rM_heardRow : Nat) (rM_cutRow : Nat) (iM_breaths : Int32) (iM_cutMany : Int32) (iM_allBreaths : Int32) (rM_trial : Nat) (rM_words : Nat) (iM_fewestBreaths : Int32) (iM_orderMany : Int32) (iM_orderSum : Int32) (iM_leastOrder : Int32) (rM_often : Nat) (iM_setMany : Int32) (iM_someOf : Int32) (iM_allOf : Int32) (iM_allWeight : Int64) (iM_enoughWeight : Int64) (iM_worthSum : Int64) (iM_firstRest : Int32) (iM_leastDrawn : Int32) (b_iM_taped : 0 ≤ iM_taped.toInt ∧ iM_taped.toInt ≤ 900) (b_iM_size : 0 ≤ iM_size.toInt ∧ iM_size.toInt ≤ 900) (b_iM_end : 0 ≤ iM_end.toInt ∧ iM_end.toInt ≤ 900) (b_iM_failed : 0 ≤ iM_failed.toInt ∧ iM_failed.toInt ≤ 1) (b_iM_hasCourt : 0 ≤ iM_hasCourt.toInt ∧ iM_hasCourt.toInt ≤ 1) (b_iM_undos : 0 ≤ iM_undos.toInt ∧ iM_undos.toInt ≤ 16) (b_iM_images : 0 ≤ iM_images.toInt ∧ iM_images.toInt ≤ 3) (b_iM_scale : 1 ≤ iM_scale.toInt ∧ iM_scale.toInt ≤ 1296) (b_iM_breaths : 0 ≤ iM_breaths.toInt ∧ iM_breaths.toInt ≤ 399) (b_iM_cutMany : 0 ≤ iM_cutMany.toInt ∧ iM_cutMany.toInt ≤ 399)  : Met l yX7_where (Cond.code yX7_where cX7_where 1 (some .int) :: wG) ({ frames := 0, cells := 0, slots := 0, locals := 0 }) (va_Pc [.ref oM] (Pw dC dI sz [(oc7 oM iM_thrown rM_tape iM_taped iM_size iM_at iM_end iM_token iM_whole iM_nameSize iM_fault iM_place iM_trouble rM_letters iM_failed iM_hasCourt rM_r rM_fresh rM_told rM_read rM_st rM_undone rM_kept iM_undos iM_images rM_fresher iM_fresherSize iM_scale iM_night rM_heardRow rM_cutRow iM_breaths iM_cutMany iM_allBreaths rM_trial rM_words iM_fewestBreaths iM_orderMany iM_orderSum iM_leastOrder rM_often iM_setMany iM_someOf iM_allOf iM_allWeight iM_enoughWeight iM_worthSum iM_firstRest iM_leastDrawn)] [])) (va_Qi (fun (r : Int32) (u : Nat) => (True ∧ True) ∧ r = Int32.ofNat u) (fun (u : Nat) (t : State) => ∃ (niM_thrown : Int32), (0 ≤ niM_thrown.toInt ∧ niM_thrown.toInt ≤ 0) ∧ (PX7_where iM_place iM_trouble = (Int32.ofNat u, niM_thrown)) ∧ Bw dC dI (va_A [(oc7 oM iM_thrown rM_tape iM_taped iM_size iM_at iM_end iM_token iM_whole iM_nameSize iM_fault iM_place iM_trouble rM_letters iM_failed iM_hasCourt rM_r rM_fresh rM_told rM_read rM_st rM_undone rM_kept iM_undos iM_images rM_fresher iM_fresherSize iM_scale iM_night rM_heardRow rM_cutRow iM_breaths iM_cutMany iM_allBreaths rM_trial rM_words iM_fewestBreaths iM_orderMany iM_orderSum iM_leastOrder rM_often iM_setMany iM_someOf iM_allOf iM_allWeight iM_enoughWeight iM_worthSum iM_firstRest iM_leastDrawn)] sz) [(oc7 oM niM_thrown rM_tape iM_taped iM_size iM_at iM_end iM_token iM_whole iM_nameSize iM_fault iM_place iM_trouble rM_letters iM_failed iM_hasCourt rM_r rM_fresh rM_told rM_read rM_st rM_undone rM_kept iM_undos iM_images rM_fresher iM_fresherSize iM_scale iM_night rM_heardRow rM_cutRow iM_breaths iM_cutMany iM_allBreaths rM_trial rM_words iM_fewestBreaths iM_orderMany iM_orderSum iM_leastOrder rM_often iM_setMany iM_someOf iM_allOf iM_allWeight iM_enoughWeight iM_worthSum iM_firstRest iM_leastDrawn)] [] t) (va_A [(oc7 oM iM_thrown rM_tape iM_taped iM_size iM_at iM_end iM_token iM_whole iM_nameSize iM_fault iM_place iM_trouble rM_letters iM_failed iM_hasCourt rM_r rM_fresh rM_told rM_read rM_st rM_undone rM_kept iM_undos iM_images rM_fresher iM_fresherSize iM_scale iM_night rM_heardRow rM_cutRow iM_breaths iM_cutMany iM_allBreaths rM_trial rM_words iM_fewestBreaths iM_orderMany iM_orderSum iM_leastOrder rM_often iM_setMany iM_someOf iM_allOf iM_allWeight iM_enoughWeight iM_worthSum iM_firstRest iM_leastDrawn)] sz)) 0 0 (va_A [(oc7 oM iM_thrown rM_tape iM_taped iM_size iM_at iM_end iM_token iM_whole iM_nameSize iM_fault iM_place iM_trouble rM_letters iM_failed iM_hasCourt rM_r rM_fresh rM_told rM_read rM_st rM_undone rM_kept iM_undos iM_images rM_fresher iM_fresherSize iM_scale iM_night rM_heardRow rM_cutRow iM_breaths iM_cutMany iM_allBreaths rM_trial rM_words iM_fewestBreaths iM_orderMany iM_orderSum iM_leastOrder rM_often iM_setMany iM_someOf iM_allOf iM_allWeight iM_enoughWeight iM_worthSum iM_firstRest iM_leastDrawn)] sz) := by
  refine Met.ofW (cc := cX7_where) (maxL := 1) (ret := (some .int)) pnX7 rfl ?_
  intro p e s m args below meth c s₁ B hml hv
  obtain ⟨rfl, hsz, hP, hK, hD0, hE⟩ := hv
  have hx := B.exec
  have hb := B.bytes
  have hr := B.returns
  have hts : ∀ w ∈ wG, w.before ([.ref oM] : List Value).toArray s = true := fun w h => atoms_spec (ws := Cond.code yX7_where cX7_where 1 (some .int) :: wG) B.pre w (List.mem_cons_of_mem _ h)
  have hown : s.vm.findClass RX7 = some m.cls := own_of B.named rfl
  have hlocks := B.notSynchronized
  subst hsz
  have hD := hD0.self (sz := s.heap.size)
  generalize hAe : va_A [(oc7 oM iM_thrown rM_tape iM_taped iM_size iM_at iM_end iM_token iM_whole iM_nameSize iM_fault iM_place iM_trouble rM_letters iM_failed iM_hasCourt rM_r rM_fresh rM_told rM_read rM_st rM_undone rM_kept iM_undos iM_images rM_fresher iM_fresherSize iM_scale iM_night rM_heardRow rM_cutRow iM_breaths iM_cutMany iM_allBreaths rM_trial rM_words iM_fewestBreaths iM_orderMany iM_orderSum iM_leastOrder rM_often iM_setMany iM_someOf iM_allOf iM_allWeight iM_enoughWeight iM_worthSum iM_firstRest iM_leastDrawn)] s.heap.size = A at hD hE ⊢
  have hA : ∀ q : Nat, s.heap.size ≤ q → A q := fun q h => by rw [← hAe]; exact Or.inr h
  have hS : va_S A s.heap s.heap [] := va_S.rf
  have hl := lv_entry ([.ref oM]) (n := 1) (Nat.le_of_ble_eq_true rfl)
  rw [lg_entry_eq]
  generalize (lg_sl ([.ref oM]) ++ List.replicate (1 - (lg_sl ([.ref oM])).length) Slot.unset).toArray = ls at hl ⊢
  have hl : lv_has ls 1 [(0, .ref oM)] := hl
  have hG := PX7_where_eq iM_place iM_trouble
  refine lv_aload_n hx hb dX7_where_0 rfl (lv_at hl 0 rfl) ?_
  refine lv_iconst (v := 0) hx hb dX7_where_1 (by decide) ?_
  refine va_put (D := (dC, dI)) (ci := 7) (v := .int 0) (ty := .int) (C := RX7) (T := TX7) (N := 48) hx hb hts inX7 tyX7 tyX7_ok nmX7 hown hK hP hD hS 0 rfl rfl 0 (by decide) (hts _ wd_184) (fun _ h9 => h9) rfl (by decide +kernel) rfl rfl (Nat.le_of_ble_eq_true rfl) dX7_where_2 (fun H locs hP hD hS => ?_)
  obtain ⟨hP, hD⟩ := wl2 (ws' := [(oc7 oM 0 rM_tape iM_taped iM_size iM_at iM_end iM_token iM_whole iM_nameSize iM_fault iM_place iM_trouble rM_letters iM_failed iM_hasCourt rM_r rM_fresh rM_told rM_read rM_st rM_undone rM_kept iM_undos iM_images rM_fresher iM_fresherSize iM_scale iM_night rM_heardRow rM_cutRow iM_breaths iM_cutMany iM_allBreaths rM_trial rM_words iM_fewestBreaths iM_orderMany iM_orderSum iM_leastOrder rM_often iM_setMany iM_someOf iM_allOf iM_allWeight iM_enoughWeight iM_worthSum iM_firstRest iM_leastDrawn)]) hP hD rfl
  refine lv_aload_n hx hb dX7_where_5 rfl (lv_at hl 0 rfl) ?_
  refine va_get (D := (dC, dI)) (ci := 7) (v := .int iM_trouble) (C := RX7) (T := TX7) (N := 48) hx hb hts inX7 hown hK hP 0 rfl rfl 11 (by decide) (hts _ wd_392) (fun _ h9 => h9) rfl dX7_where_6 ?_
  refine lv_iconst (v := 4) hx hb dX7_where_9 (by decide) ?_
  refine lv_icmp_ne (tgt := 20) hx hb dX7_where_10 (by decide) (fun c_3209 => ?_) (fun c_3209 => ?_)
  · skip
    have hG := hG.trans (if_neg c_3209)
    have gc_3209 := ti_ne c_3209 rfl kc_4
    refine lv_iconst (v := (-1)) hx hb dX7_where_20 (by decide) ?_
    exact wq_i hx hb hr (cI (-1)) ⟨⟨trivial, trivial⟩, (cI_of (-1))⟩ (fun t ht hW => ⟨0, (by decide), (cI_tup hG), Bw.to hP hD hK ht hW⟩) hS dX7_where_21 hlocks
  · skip
    have hG := hG.trans (if_pos c_3209)
    have gc_3209 := ti_eq c_3209 rfl kc_4
    refine lv_aload_n hx hb dX7_where_13 rfl (lv_at hl 0 rfl) ?_
    refine va_get (D := (dC, dI)) (ci := 7) (v := .int iM_place) (C := RX7) (T := TX7) (N := 48) hx hb hts inX7 hown hK hP 0 rfl rfl 10 (by decide) (hts _ wd_153) (fun _ h9 => h9) rfl dX7_where_14 ?_
    refine lv_goto (tgt := 21) hx hb dX7_where_17 (by decide) ?_
    exact wq_i hx hb hr (cI iM_place) ⟨⟨trivial, trivial⟩, (cI_of iM_place)⟩ (fun t ht hW => ⟨0, (by decide), (cI_tup hG), Bw.to hP hD hK ht hW⟩) hS dX7_where_21 hlocks
set_option maxHeartbeats 4000000 in
set_option maxRecDepth 100000 in
theorem tX7_size (l : Launch) (dC : Nat → ClassId) (dI : Nat → Nat → Nat) (sz : Nat) (oM : Nat) (iM_thrown : Int32) (rM_tape : Nat) (iM_taped : Int32) (iM_size : Int32) (iM_at : Int32) (iM_end : Int32) (iM_token : Int32) (iM_whole : Int32) (iM_nameSize : Int32) (iM_fault : Int32) (iM_place : Int32) (iM_trouble : Int32) (rM_letters : Nat) (iM_failed : Int32) (iM_hasCourt : Int32) (rM_r : Nat) (fM_r : Nat → Int32) (kM_r : ClassId) (rM_fresh : Nat) (rM_told : Nat) (rM_read : Nat) (rM_st : Nat) (rM_undone : Nat) (rM_kept : Nat) (iM_undos : Int32) (iM_images : Int32) (rM_fresher : Nat) (iM_fresherSize : Int32) (iM_scale : Int32) (iM_night : Int32) (rM_heardRow : Nat) (rM_cutRow : Nat) (iM_breaths : Int32) (iM_cutMany : Int32) (iM_allBreaths : Int32) (rM_trial : Nat) (rM_words : Nat) (iM_fewestBreaths : Int32) (iM_orderMany : Int32) (iM_orderSum : Int32) (iM_leastOrder : Int32) (rM_often : Nat) (iM_setMany : Int32) (iM_someOf : Int32) (iM_allOf : Int32) (iM_allWeight : Int64) (iM_enoughWeight : Int64) (iM_worthSum : Int64) (iM_firstRest : Int32) (iM_leastDrawn : Int32) (p0 : Int32) (b_iM_taped : 0 ≤ iM_taped.toInt ∧ iM_taped.toInt ≤ 900) (b_iM_size : 0 ≤ iM_size.toInt ∧ iM_size.toInt ≤ 900) (b_iM_end : 0 ≤ iM_end.toInt ∧ iM_end.toInt ≤ 900) (b_iM_failed : 0 ≤ iM_failed.toInt ∧ iM_failed.toInt ≤ 1) (b_iM_hasCourt : 0 ≤ iM_hasCourt.toInt ∧ iM_hasCourt.toInt ≤ 1) (b_iM_undos : 0 ≤ iM_undos.toInt ∧ iM_undos.toInt ≤ 16) (b_iM_images : 0 ≤ iM_images.toInt ∧ iM_images.toInt ≤ 3) (b_iM_scale : 1 ≤ iM_scale.toInt ∧ iM_scale.toInt ≤ 1296) (b_iM_breaths : 0 ≤ iM_breaths.toInt ∧ iM_breaths.toInt ≤ 399) (b_iM_cutMany : 0 ≤ iM_cutMany.toInt ∧ iM_cutMany.toInt ≤ 399) (r_R : ROk fM_r) (r_C : iM_hasCourt.toInt ≤ 0 ∨ (1 ≤ (fM_r 1).toInt ∧ 0 ≤ (fM_r 6).toInt ∧ (fM_r 6).toInt < (fM_r 1).toInt))  : Met l yX7_size (Cond.code yX7_size cX7_size 2 (some .int) :: wG) ({ frames := 1, cells := 0, slots := 0, locals := 22 }) (va_Pc [.ref oM, .int p0] (Pw dC dI sz [(oc7 oM iM_thrown rM_tape iM_taped iM_size iM_at iM_end iM_token iM_whole iM_nameSize iM_fault iM_place iM_trouble rM_letters iM_failed iM_hasCourt rM_r rM_fresh rM_told rM_read rM_st rM_undone rM_kept iM_undos iM_images rM_fresher iM_fresherSize iM_scale iM_night rM_heardRow rM_cutRow iM_breaths iM_cutMany iM_allBreaths rM_trial rM_words iM_fewestBreaths iM_orderMany iM_orderSum iM_leastOrder rM_often iM_setMany iM_someOf iM_allOf iM_allWeight iM_enoughWeight iM_worthSum iM_firstRest iM_leastDrawn), (arI rM_r kM_r 287 fM_r)] [(kM_r, .int)])) (va_Qi (fun (r : Int32) (u : Nat) => (True ∧ True) ∧ r = Int32.ofNat u) (fun (u : Nat) (t : State) => ∃ (niM_thrown : Int32), (0 ≤ niM_thrown.toInt ∧ niM_thrown.toInt ≤ 0) ∧ (PX7_size iM_taped iM_hasCourt fM_r iM_undos iM_images p0 = (Int32.ofNat u, niM_thrown)) ∧ Bw dC dI (va_A [(oc7 oM iM_thrown rM_tape iM_taped iM_size iM_at iM_end iM_token iM_whole iM_nameSize iM_fault iM_place iM_trouble rM_letters iM_failed iM_hasCourt rM_r rM_fresh rM_told rM_read rM_st rM_undone rM_kept iM_undos iM_images rM_fresher iM_fresherSize iM_scale iM_night rM_heardRow rM_cutRow iM_breaths iM_cutMany iM_allBreaths rM_trial rM_words iM_fewestBreaths iM_orderMany iM_orderSum iM_leastOrder rM_often iM_setMany iM_someOf iM_allOf iM_allWeight iM_enoughWeight iM_worthSum iM_firstRest iM_leastDrawn), (arI rM_r kM_r 287 fM_r)] sz) [(oc7 oM niM_thrown rM_tape iM_taped iM_size iM_at iM_end iM_token iM_whole iM_nameSize iM_fault iM_place iM_trouble rM_letters iM_failed iM_hasCourt rM_r rM_fresh rM_told rM_read rM_st rM_undone rM_kept iM_undos iM_images rM_fresher iM_fresherSize iM_scale iM_night rM_heardRow rM_cutRow iM_breaths iM_cutMany iM_allBreaths rM_trial rM_words iM_fewestBreaths iM_orderMany iM_orderSum iM_leastOrder rM_often iM_setMany iM_someOf iM_allOf iM_allWeight iM_enoughWeight iM_worthSum iM_firstRest iM_leastDrawn), (arI rM_r kM_r 287 fM_r)] [(kM_r, .int)] t) (va_A [(oc7 oM iM_thrown rM_tape iM_taped iM_size iM_at iM_end iM_token iM_whole iM_nameSize iM_fault iM_place iM_trouble rM_letters iM_failed iM_hasCourt rM_r rM_fresh rM_told rM_read rM_st rM_undone rM_kept iM_undos iM_images rM_fresher iM_fresherSize iM_scale iM_night rM_heardRow rM_cutRow iM_breaths iM_cutMany iM_allBreaths rM_trial rM_words iM_fewestBreaths iM_orderMany iM_orderSum iM_leastOrder rM_often iM_setMany iM_someOf iM_allOf iM_allWeight iM_enoughWeight iM_worthSum iM_firstRest iM_leastDrawn), (arI rM_r kM_r 287 fM_r)] sz)) 0 0 (va_A [(oc7 oM iM_thrown rM_tape iM_taped iM_size iM_at iM_end iM_token iM_whole iM_nameSize iM_fault iM_place iM_trouble rM_letters iM_failed iM_hasCourt rM_r rM_fresh rM_told rM_read rM_st rM_undone rM_kept iM_undos iM_images rM_fresher iM_fresherSize iM_scale iM_night rM_heardRow rM_cutRow iM_breaths iM_cutMany iM_allBreaths rM_trial rM_words iM_fewestBreaths iM_orderMany iM_orderSum iM_leastOrder rM_often iM_setMany iM_someOf iM_allOf iM_allWeight iM_enoughWeight iM_worthSum iM_firstRest iM_leastDrawn), (arI rM_r kM_r 287 fM_r)] sz) := by
  refine Met.ofW (cc := cX7_size) (maxL := 2) (ret := (some .int)) pnX7 rfl ?_
  intro p e s m args below meth c s₁ B hml hv
  obtain ⟨rfl, hsz, hP, hK, hD0, hE⟩ := hv
  have hx := B.exec
  have hb := B.bytes
  have hr := B.returns
  have hts : ∀ w ∈ wG, w.before ([.ref oM, .int p0] : List Value).toArray s = true := fun w h => atoms_spec (ws := Cond.code yX7_size cX7_size 2 (some .int) :: wG) B.pre w (List.mem_cons_of_mem _ h)
  have hown : s.vm.findClass RX7 = some m.cls := own_of B.named rfl
  have hlocks := B.notSynchronized
  subst hsz
  have hD := hD0.self (sz := s.heap.size)
  generalize hAe : va_A [(oc7 oM iM_thrown rM_tape iM_taped iM_size iM_at iM_end iM_token iM_whole iM_nameSize iM_fault iM_place iM_trouble rM_letters iM_failed iM_hasCourt rM_r rM_fresh rM_told rM_read rM_st rM_undone rM_kept iM_undos iM_images rM_fresher iM_fresherSize iM_scale iM_night rM_heardRow rM_cutRow iM_breaths iM_cutMany iM_allBreaths rM_trial rM_words iM_fewestBreaths iM_orderMany iM_orderSum iM_leastOrder rM_often iM_setMany iM_someOf iM_allOf iM_allWeight iM_enoughWeight iM_worthSum iM_firstRest iM_leastDrawn), (arI rM_r kM_r 287 fM_r)] s.heap.size = A at hD hE ⊢
  have hA : ∀ q : Nat, s.heap.size ≤ q → A q := fun q h => by rw [← hAe]; exact Or.inr h
  have hS : va_S A s.heap s.heap [] := va_S.rf
  have hl := lv_entry ([.ref oM, .int p0]) (n := 2) (Nat.le_of_ble_eq_true rfl)
  rw [lg_entry_eq]
  generalize (lg_sl ([.ref oM, .int p0]) ++ List.replicate (2 - (lg_sl ([.ref oM, .int p0])).length) Slot.unset).toArray = ls at hl ⊢
  have hl : lv_has ls 2 [(0, .ref oM), (1, .int p0)] := hl
  have hG := PX7_size_eq iM_taped iM_hasCourt fM_r iM_undos iM_images p0
  have s_slips := r_R.slips
  have s_nodes := r_R.nodes
  have s_uns := r_R.uns
  refine lv_aload_n hx hb dX7_size_0 rfl (lv_at hl 0 rfl) ?_
  refine lv_iconst (v := 0) hx hb dX7_size_1 (by decide) ?_
  refine va_put (D := (dC, dI)) (ci := 7) (v := .int 0) (ty := .int) (C := RX7) (T := TX7) (N := 48) hx hb hts inX7 tyX7 tyX7_ok nmX7 hown hK hP hD hS 0 rfl rfl 0 (by decide) (hts _ wd_184) (fun _ h9 => h9) rfl (by decide +kernel) rfl rfl (Nat.le_of_ble_eq_true rfl) dX7_size_2 (fun H locs hP hD hS => ?_)
  obtain ⟨hP, hD⟩ := wl2 (ws' := [(oc7 oM 0 rM_tape iM_taped iM_size iM_at iM_end iM_token iM_whole iM_nameSize iM_fault iM_place iM_trouble rM_letters iM_failed iM_hasCourt rM_r rM_fresh rM_told rM_read rM_st rM_undone rM_kept iM_undos iM_images rM_fresher iM_fresherSize iM_scale iM_night rM_heardRow rM_cutRow iM_breaths iM_cutMany iM_allBreaths rM_trial rM_words iM_fewestBreaths iM_orderMany iM_orderSum iM_leastOrder rM_often iM_setMany iM_someOf iM_allOf iM_allWeight iM_enoughWeight iM_worthSum iM_firstRest iM_leastDrawn), (arI rM_r kM_r 287 fM_r)]) hP hD rfl
  refine lv_iload_n hx hb dX7_size_5 rfl (lv_at hl 1 rfl) ?_
  refine lv_bipush (v := 7) hx hb dX7_size_6 (by decide) ?_
  refine lv_icmp_ne (tgt := 16) hx hb dX7_size_8 (by decide) (fun c_3228 => ?_) (fun c_3228 => ?_)
  · skip
    have hG := hG.trans (if_neg c_3228)
    have gc_3228 := ti_ne c_3228 rfl kc_7
    refine lv_aload_n hx hb dX7_size_16 rfl (lv_at hl 0 rfl) ?_
    rcases (id r_C) with r_C0 | r_C1
    · skip
      refine va_get (D := (dC, dI)) (ci := 7) (v := .int iM_hasCourt) (C := RX7) (T := TX7) (N := 48) hx hb hts inX7 hown hK hP 0 rfl rfl 14 (by decide) (hts _ wd_385) (fun _ h9 => h9) rfl dX7_size_17 ?_
      refine lv_if_ne (tgt := 39) hx hb dX7_size_20 (by decide) (fun c_3229 => ?_) (fun c_3229 => ?_)
      · skip
        have hG := hG.trans (if_neg c_3229)
        have gc_3229 := ti_ne c_3229 rfl kc_0
        exact (om_c9ba8b89 gc_3229 r_C0 b_iM_hasCourt.1).elim
      · skip
        have hG := hG.trans (if_pos c_3229)
        have gc_3229 := ti_eq c_3229 rfl kc_0
        refine lv_iload_n hx hb dX7_size_23 rfl (lv_at hl 1 rfl) ?_
        refine lv_iconst (v := 0) hx hb dX7_size_24 (by decide) ?_
        refine lv_bipush (v := 6) hx hb dX7_size_25 (by decide) ?_
        have hFc : ∀ q, va_A [] _ q → A q := fun q h => hA q (Nat.le_trans hS.1 (va_nilA h))
        refine va_calli (va_runS (As := [.int p0, .int 0, .int 6]) (rest := []) ⟨hx, hb, hml, hown, hts⟩ (tX7_in l dC dI _ p0 0 6 ) (va_cwS 3 hts (wd_S wd_393 wd_394 wd_5 (wd_c wd_395)) rfl rfl rfl ds_yX7_in_3 ⟨Nat.le_of_ble_eq_true rfl, Nat.le_of_ble_eq_true rfl⟩) ⟨Pw.fb, fun U hU hW => Pn.to hK hE hS hA hU hW⟩ rfl rfl hl.1 rfl (lv_room (Nat.le_of_ble_eq_true rfl)) dX7_size_27 ⟨Nat.le_of_ble_eq_true rfl, Nat.le_of_ble_eq_true rfl⟩) hS (fun q _ h => hFc q h) hFc (fun r u t H locs ht hvm hw hB hz1 hk1 hS => ?_)
        obtain ⟨hP, hD, hK⟩ := Bw.same ht hvm hP hD hK hk1 hFc
        clear hz1 hk1 hvm ht hB
        have hq9 := hw.2
        have hw := hw.1
        obtain ⟨x_3230, rfl⟩ : ∃ z, z = r := ⟨_, rfl⟩
        have hq_x_3230 := hq9
        have hG := hG.trans (lt_eq hq_x_3230.symm)
        have bx_3230 := hw.1
        have dx_3230 := bz_tb bx_3230
        have px_3230 := hw.2
        rcases px_3230 with ⟨gx_3230, hx_3230⟩ | ⟨gx_3230, hx_3230⟩
        · skip
          have l9x_3230 := kc_0
          have m9x_3230 := kc_6
          refine lv_if_eq (tgt := 37) hx hb dX7_size_30 (by decide) (fun c_3231 => ?_) (fun c_3231 => ?_)
          · skip
            have hG := hG.trans (if_pos c_3231)
            have gc_3231 := ti_eq c_3231 rfl kc_0
            exfalso; clear hG; omega
          · skip
            have hG := hG.trans (if_neg c_3231)
            have gc_3231 := ti_ne c_3231 rfl kc_0
            refine lv_iconst (v := 0) hx hb dX7_size_33 (by decide) ?_
            refine lv_goto (tgt := 38) hx hb dX7_size_34 (by decide) ?_
            exact wq_i hx hb hr (cI 0) ⟨⟨trivial, trivial⟩, (cI_of 0)⟩ (fun t ht hW => ⟨0, (by decide), (cI_tup hG), Bw.to hP hD hK ht hW⟩) hS dX7_size_38 hlocks
        · skip
          have l9x_3230 := kc_0
          have m9x_3230 := kc_6
          refine lv_if_eq (tgt := 37) hx hb dX7_size_30 (by decide) (fun c_3232 => ?_) (fun c_3232 => ?_)
          · skip
            have hG := hG.trans (if_pos c_3232)
            have gc_3232 := ti_eq c_3232 rfl kc_0
            refine lv_iconst (v := (-1)) hx hb dX7_size_37 (by decide) ?_
            exact wq_i hx hb hr (cI (-1)) ⟨⟨trivial, trivial⟩, (cI_of (-1))⟩ (fun t ht hW => ⟨0, (by decide), (cI_tup hG), Bw.to hP hD hK ht hW⟩) hS dX7_size_38 hlocks
          · skip
            have hG := hG.trans (if_neg c_3232)
            have gc_3232 := ti_ne c_3232 rfl kc_0
            exfalso; clear hG; omega
    · skip
      refine va_get (D := (dC, dI)) (ci := 7) (v := .int iM_hasCourt) (C := RX7) (T := TX7) (N := 48) hx hb hts inX7 hown hK hP 0 rfl rfl 14 (by decide) (hts _ wd_385) (fun _ h9 => h9) rfl dX7_size_17 ?_
      refine lv_if_ne (tgt := 39) hx hb dX7_size_20 (by decide) (fun c_3233 => ?_) (fun c_3233 => ?_)
      · skip
        have hG := hG.trans (if_neg c_3233)
        have gc_3233 := ti_ne c_3233 rfl kc_0
        refine lv_iload_n hx hb dX7_size_39 rfl (lv_at hl 1 rfl) ?_
        refine lv_iconst (v := 0) hx hb dX7_size_40 (by decide) ?_
        refine lv_iconst (v := 3) hx hb dX7_size_41 (by decide) ?_
        have hFc : ∀ q, va_A [] _ q → A q := fun q h => hA q (Nat.le_trans hS.1 (va_nilA h))
        refine va_calli (va_runS (As := [.int p0, .int 0, .int 3]) (rest := []) ⟨hx, hb, hml, hown, hts⟩ (tX7_in l dC dI _ p0 0 3 ) (va_cwS 3 hts (wd_S wd_393 wd_394 wd_5 (wd_c wd_395)) rfl rfl rfl ds_yX7_in_3 ⟨Nat.le_of_ble_eq_true rfl, Nat.le_of_ble_eq_true rfl⟩) ⟨Pw.fb, fun U hU hW => Pn.to hK hE hS hA hU hW⟩ rfl rfl hl.1 rfl (lv_room (Nat.le_of_ble_eq_true rfl)) dX7_size_42 ⟨Nat.le_of_ble_eq_true rfl, Nat.le_of_ble_eq_true rfl⟩) hS (fun q _ h => hFc q h) hFc (fun r u t H locs ht hvm hw hB hz1 hk1 hS => ?_)
        obtain ⟨hP, hD, hK⟩ := Bw.same ht hvm hP hD hK hk1 hFc
        clear hz1 hk1 hvm ht hB
        have hq9 := hw.2
        have hw := hw.1
        obtain ⟨x_3234, rfl⟩ : ∃ z, z = r := ⟨_, rfl⟩
        have hq_x_3234 := hq9
        have hG := hG.trans (lt_eq hq_x_3234.symm)
        have bx_3234 := hw.1
        have dx_3234 := bz_tb bx_3234
        have px_3234 := hw.2
        rcases px_3234 with ⟨gx_3234, hx_3234⟩ | ⟨gx_3234, hx_3234⟩
        · skip
          have l9x_3234 := kc_0
          have m9x_3234 := kc_3
          refine lv_if_eq (tgt := 55) hx hb dX7_size_45 (by decide) (fun c_3235 => ?_) (fun c_3235 => ?_)
          · skip
            have hG := hG.trans (if_pos c_3235)
            have gc_3235 := ti_eq c_3235 rfl kc_0
            exfalso; clear hG; omega
          · skip
            have hG := hG.trans (if_neg c_3235)
            have gc_3235 := ti_ne c_3235 rfl kc_0
            refine lv_aload_n hx hb dX7_size_48 rfl (lv_at hl 0 rfl) ?_
            refine va_get (D := (dC, dI)) (ci := 7) (v := .ref rM_r) (C := RX7) (T := TX7) (N := 48) hx hb hts inX7 hown hK hP 0 rfl rfl 15 (by decide) (hts _ wd_155) (fun _ h9 => h9) rfl dX7_size_49 ?_
            refine lv_iload_n hx hb dX7_size_52 rfl (lv_at hl 1 rfl) ?_
            refine va_iald hx hb hK hP 1 0 rfl rfl (ti_in rfl (by omega) (by omega)) dX7_size_53 ?_
            refine lv_topi (fun x_3236 ex_3236 => ?_)
            have hG := hG.trans (lt_eq ex_3236)
            have kx_3236 : (fM_r p0.toNatClampNeg).toInt = x_3236.toInt := by rw [ex_3236]
            have cx_3236 := kx_3236
            exact wq_i hx hb hr (cI x_3236) ⟨⟨trivial, trivial⟩, (cI_of x_3236)⟩ (fun t ht hW => ⟨0, (by decide), (cI_tup hG), Bw.to hP hD hK ht hW⟩) hS dX7_size_54 hlocks
        · skip
          have l9x_3234 := kc_0
          have m9x_3234 := kc_3
          refine lv_if_eq (tgt := 55) hx hb dX7_size_45 (by decide) (fun c_3237 => ?_) (fun c_3237 => ?_)
          · skip
            have hG := hG.trans (if_pos c_3237)
            have gc_3237 := ti_eq c_3237 rfl kc_0
            refine lv_iload_n hx hb dX7_size_55 rfl (lv_at hl 1 rfl) ?_
            refine lv_iconst (v := 4) hx hb dX7_size_56 (by decide) ?_
            refine lv_icmp_ne (tgt := 77) hx hb dX7_size_57 (by decide) (fun c_3238 => ?_) (fun c_3238 => ?_)
            · skip
              have hG := hG.trans (if_neg c_3238)
              have gc_3238 := ti_ne c_3238 rfl kc_4
              refine lv_iload_n hx hb dX7_size_77 rfl (lv_at hl 1 rfl) ?_
              refine lv_iconst (v := 5) hx hb dX7_size_78 (by decide) ?_
              refine lv_icmp_ne (tgt := 89) hx hb dX7_size_79 (by decide) (fun c_3239 => ?_) (fun c_3239 => ?_)
              · skip
                have hG := hG.trans (if_neg c_3239)
                have gc_3239 := ti_ne c_3239 rfl kc_5
                refine lv_iload_n hx hb dX7_size_89 rfl (lv_at hl 1 rfl) ?_
                refine lv_bipush (v := 6) hx hb dX7_size_90 (by decide) ?_
                refine lv_icmp_ne (tgt := 102) hx hb dX7_size_92 (by decide) (fun c_3240 => ?_) (fun c_3240 => ?_)
                · skip
                  have hG := hG.trans (if_neg c_3240)
                  have gc_3240 := ti_ne c_3240 rfl kc_6
                  refine lv_iconst (v := (-1)) hx hb dX7_size_102 (by decide) ?_
                  exact wq_i hx hb hr (cI (-1)) ⟨⟨trivial, trivial⟩, (cI_of (-1))⟩ (fun t ht hW => ⟨0, (by decide), (cI_tup hG), Bw.to hP hD hK ht hW⟩) hS dX7_size_103 hlocks
                · skip
                  have hG := hG.trans (if_pos c_3240)
                  have gc_3240 := ti_eq c_3240 rfl kc_6
                  refine lv_aload_n hx hb dX7_size_95 rfl (lv_at hl 0 rfl) ?_
                  refine va_get (D := (dC, dI)) (ci := 7) (v := .int iM_images) (C := RX7) (T := TX7) (N := 48) hx hb hts inX7 hown hK hP 0 rfl rfl 23 (by decide) (hts _ wd_387) (fun _ h9 => h9) rfl dX7_size_96 ?_
                  refine lv_goto (tgt := 103) hx hb dX7_size_99 (by decide) ?_
                  exact wq_i hx hb hr (cI iM_images) ⟨⟨trivial, trivial⟩, (cI_of iM_images)⟩ (fun t ht hW => ⟨0, (by decide), (cI_tup hG), Bw.to hP hD hK ht hW⟩) hS dX7_size_103 hlocks
              · skip
                have hG := hG.trans (if_pos c_3239)
                have gc_3239 := ti_eq c_3239 rfl kc_5
                refine lv_aload_n hx hb dX7_size_82 rfl (lv_at hl 0 rfl) ?_
                refine va_get (D := (dC, dI)) (ci := 7) (v := .int iM_undos) (C := RX7) (T := TX7) (N := 48) hx hb hts inX7 hown hK hP 0 rfl rfl 22 (by decide) (hts _ wd_386) (fun _ h9 => h9) rfl dX7_size_83 ?_
                refine lv_goto (tgt := 103) hx hb dX7_size_86 (by decide) ?_
                exact wq_i hx hb hr (cI iM_undos) ⟨⟨trivial, trivial⟩, (cI_of iM_undos)⟩ (fun t ht hW => ⟨0, (by decide), (cI_tup hG), Bw.to hP hD hK ht hW⟩) hS dX7_size_103 hlocks
            · skip
              have hG := hG.trans (if_pos c_3238)
              have gc_3238 := ti_eq c_3238 rfl kc_4
              refine lv_aload_n hx hb dX7_size_60 rfl (lv_at hl 0 rfl) ?_
              refine va_get (D := (dC, dI)) (ci := 7) (v := .ref rM_r) (C := RX7) (T := TX7) (N := 48) hx hb hts inX7 hown hK hP 0 rfl rfl 15 (by decide) (hts _ wd_155) (fun _ h9 => h9) rfl dX7_size_61 ?_
              refine lv_iconst (v := 4) hx hb dX7_size_64 (by decide) ?_
              refine va_iald hx hb hK hP 1 0 rfl rfl (by unfold vp_in; decide) dX7_size_65 ?_
              refine lv_topi (fun x_3241 ex_3241 => ?_)
              have hG := hG.trans (lt_eq ex_3241)
              have cx_3241 : (fM_r 4).toInt = x_3241.toInt := congrArg Int32.toInt (show fM_r 4 = x_3241 from ex_3241.symm)
              refine lv_if_le (tgt := 73) hx hb dX7_size_66 (by decide) (fun c_3242 => ?_) (fun c_3242 => ?_)
              · skip
                have hG := hG.trans (if_pos c_3242)
                have gc_3242 := ti_le c_3242 rfl kc_0
                refine lv_iconst (v := 0) hx hb dX7_size_73 (by decide) ?_
                refine lv_goto (tgt := 103) hx hb dX7_size_74 (by decide) ?_
                exact wq_i hx hb hr (cI 0) ⟨⟨trivial, trivial⟩, (cI_of 0)⟩ (fun t ht hW => ⟨0, (by decide), (cI_tup hG), Bw.to hP hD hK ht hW⟩) hS dX7_size_103 hlocks
              · skip
                have hG := hG.trans (if_neg c_3242)
                have gc_3242 := ti_nle c_3242 rfl kc_0
                refine lv_iconst (v := 1) hx hb dX7_size_69 (by decide) ?_
                refine lv_goto (tgt := 103) hx hb dX7_size_70 (by decide) ?_
                exact wq_i hx hb hr (cI 1) ⟨⟨trivial, trivial⟩, (cI_of 1)⟩ (fun t ht hW => ⟨0, (by decide), (cI_tup hG), Bw.to hP hD hK ht hW⟩) hS dX7_size_103 hlocks
          · skip
            have hG := hG.trans (if_neg c_3237)
            have gc_3237 := ti_ne c_3237 rfl kc_0
            exfalso; clear hG; omega
      · skip
        have hG := hG.trans (if_pos c_3233)
        have gc_3233 := ti_eq c_3233 rfl kc_0
        refine lv_iload_n hx hb dX7_size_23 rfl (lv_at hl 1 rfl) ?_
        refine lv_iconst (v := 0) hx hb dX7_size_24 (by decide) ?_
        refine lv_bipush (v := 6) hx hb dX7_size_25 (by decide) ?_
        have hFc : ∀ q, va_A [] _ q → A q := fun q h => hA q (Nat.le_trans hS.1 (va_nilA h))
        refine va_calli (va_runS (As := [.int p0, .int 0, .int 6]) (rest := []) ⟨hx, hb, hml, hown, hts⟩ (tX7_in l dC dI _ p0 0 6 ) (va_cwS 3 hts (wd_S wd_393 wd_394 wd_5 (wd_c wd_395)) rfl rfl rfl ds_yX7_in_3 ⟨Nat.le_of_ble_eq_true rfl, Nat.le_of_ble_eq_true rfl⟩) ⟨Pw.fb, fun U hU hW => Pn.to hK hE hS hA hU hW⟩ rfl rfl hl.1 rfl (lv_room (Nat.le_of_ble_eq_true rfl)) dX7_size_27 ⟨Nat.le_of_ble_eq_true rfl, Nat.le_of_ble_eq_true rfl⟩) hS (fun q _ h => hFc q h) hFc (fun r u t H locs ht hvm hw hB hz1 hk1 hS => ?_)
        obtain ⟨hP, hD, hK⟩ := Bw.same ht hvm hP hD hK hk1 hFc
        clear hz1 hk1 hvm ht hB
        have hq9 := hw.2
        have hw := hw.1
        obtain ⟨x_3243, rfl⟩ : ∃ z, z = r := ⟨_, rfl⟩
        have hq_x_3243 := hq9
        have hG := hG.trans (lt_eq hq_x_3243.symm)
        have bx_3243 := hw.1
        have dx_3243 := bz_tb bx_3243
        have px_3243 := hw.2
        rcases px_3243 with ⟨gx_3243, hx_3243⟩ | ⟨gx_3243, hx_3243⟩
        · skip
          have l9x_3243 := kc_0
          have m9x_3243 := kc_6
          refine lv_if_eq (tgt := 37) hx hb dX7_size_30 (by decide) (fun c_3244 => ?_) (fun c_3244 => ?_)
          · skip
            have hG := hG.trans (if_pos c_3244)
            have gc_3244 := ti_eq c_3244 rfl kc_0
            exfalso; clear hG; omega
          · skip
            have hG := hG.trans (if_neg c_3244)
            have gc_3244 := ti_ne c_3244 rfl kc_0
            refine lv_iconst (v := 0) hx hb dX7_size_33 (by decide) ?_
            refine lv_goto (tgt := 38) hx hb dX7_size_34 (by decide) ?_
            exact wq_i hx hb hr (cI 0) ⟨⟨trivial, trivial⟩, (cI_of 0)⟩ (fun t ht hW => ⟨0, (by decide), (cI_tup hG), Bw.to hP hD hK ht hW⟩) hS dX7_size_38 hlocks
        · skip
          have l9x_3243 := kc_0
          have m9x_3243 := kc_6
          refine lv_if_eq (tgt := 37) hx hb dX7_size_30 (by decide) (fun c_3245 => ?_) (fun c_3245 => ?_)
          · skip
            have hG := hG.trans (if_pos c_3245)
            have gc_3245 := ti_eq c_3245 rfl kc_0
            refine lv_iconst (v := (-1)) hx hb dX7_size_37 (by decide) ?_
            exact wq_i hx hb hr (cI (-1)) ⟨⟨trivial, trivial⟩, (cI_of (-1))⟩ (fun t ht hW => ⟨0, (by decide), (cI_tup hG), Bw.to hP hD hK ht hW⟩) hS dX7_size_38 hlocks
          · skip
            have hG := hG.trans (if_neg c_3245)
            have gc_3245 := ti_ne c_3245 rfl kc_0
            exfalso; clear hG; omega
  · skip
    have hG := hG.trans (if_pos c_3228)
    have gc_3228 := ti_eq c_3228 rfl kc_7
    refine lv_aload_n hx hb dX7_size_11 rfl (lv_at hl 0 rfl) ?_
    refine va_get (D := (dC, dI)) (ci := 7) (v := .int iM_taped) (C := RX7) (T := TX7) (N := 48) hx hb hts inX7 hown hK hP 0 rfl rfl 2 (by decide) (hts _ wd_185) (fun _ h9 => h9) rfl dX7_size_12 ?_
    exact wq_i hx hb hr (cI iM_taped) ⟨⟨trivial, trivial⟩, (cI_of iM_taped)⟩ (fun t ht hW => ⟨0, (by decide), (cI_tup hG), Bw.to hP hD hK ht hW⟩) hS dX7_size_15 hlocks
set_option maxHeartbeats 4000000 in
set_option maxRecDepth 100000 in
theorem tX7_trouble (l : Launch) (dC : Nat → ClassId) (dI : Nat → Nat → Nat) (sz : Nat) (oM : Nat) (iM_thrown : Int32) (rM_tape : Nat) (iM_taped : Int32) (iM_size : Int32) (iM_at : Int32) (iM_end : Int32) (iM_token : Int32) (iM_whole : Int32) (iM_nameSize : Int32) (iM_fault : Int32) (iM_place : Int32) (iM_trouble : Int32) (rM_letters : Nat) (iM_failed : Int32) (iM_hasCourt : Int32) (rM_r : Nat) (rM_fresh : Nat) (rM_told : Nat) (rM_read : Nat) (rM_st : Nat) (rM_undone : Nat) (rM_kept : Nat) (iM_undos : Int32) (iM_images : Int32) (rM_fresher : Nat) (iM_fresherSize : Int32) (iM_scale : Int32) (iM_night : Int32) (rM_heardRow : Nat) (rM_cutRow : Nat) (iM_breaths : Int32) (iM_cutMany : Int32) (iM_allBreaths : Int32) (rM_trial : Nat) (rM_words : Nat) (iM_fewestBreaths : Int32) (iM_orderMany : Int32) (iM_orderSum : Int32) (iM_leastOrder : Int32) (rM_often : Nat) (iM_setMany : Int32) (iM_someOf : Int32) (iM_allOf : Int32) (iM_allWeight : Int64) (iM_enoughWeight : Int64) (iM_worthSum : Int64) (iM_firstRest : Int32) (iM_leastDrawn : Int32) (b_iM_taped : 0 ≤ iM_taped.toInt ∧ iM_taped.toInt ≤ 900) (b_iM_size : 0 ≤ iM_size.toInt ∧ iM_size.toInt ≤ 900) (b_iM_end : 0 ≤ iM_end.toInt ∧ iM_end.toInt ≤ 900) (b_iM_failed : 0 ≤ iM_failed.toInt ∧ iM_failed.toInt ≤ 1) (b_iM_hasCourt : 0 ≤ iM_hasCourt.toInt ∧ iM_hasCourt.toInt ≤ 1) (b_iM_undos : 0 ≤ iM_undos.toInt ∧ iM_undos.toInt ≤ 16) (b_iM_images : 0 ≤ iM_images.toInt ∧ iM_images.toInt ≤ 3) (b_iM_scale : 1 ≤ iM_scale.toInt ∧ iM_scale.toInt ≤ 1296) (b_iM_breaths : 0 ≤ iM_breaths.toInt ∧ iM_breaths.toInt ≤ 399) (b_iM_cutMany : 0 ≤ iM_cutMany.toInt ∧ iM_cutMany.toInt ≤ 399)  : Met l yX7_trouble (Cond.code yX7_trouble cX7_trouble 1 (some .int) :: wG) ({ frames := 0, cells := 0, slots := 0, locals := 0 }) (va_Pc [.ref oM] (Pw dC dI sz [(oc7 oM iM_thrown rM_tape iM_taped iM_size iM_at iM_end iM_token iM_whole iM_nameSize iM_fault iM_place iM_trouble rM_letters iM_failed iM_hasCourt rM_r rM_fresh rM_told rM_read rM_st rM_undone rM_kept iM_undos iM_images rM_fresher iM_fresherSize iM_scale iM_night rM_heardRow rM_cutRow iM_breaths iM_cutMany iM_allBreaths rM_trial rM_words iM_fewestBreaths iM_orderMany iM_orderSum iM_leastOrder rM_often iM_setMany iM_someOf iM_allOf iM_allWeight iM_enoughWeight iM_worthSum iM_firstRest iM_leastDrawn)] [])) (va_Qi (fun (r : Int32) (u : Nat) => (True ∧ True) ∧ r = Int32.ofNat u) (fun (u : Nat) (t : State) => ∃ (niM_thrown : Int32), (0 ≤ niM_thrown.toInt ∧ niM_thrown.toInt ≤ 0) ∧ (PX7_trouble iM_trouble = (Int32.ofNat u, niM_thrown)) ∧ Bw dC dI (va_A [(oc7 oM iM_thrown rM_tape iM_taped iM_size iM_at iM_end iM_token iM_whole iM_nameSize iM_fault iM_place iM_trouble rM_letters iM_failed iM_hasCourt rM_r rM_fresh rM_told rM_read rM_st rM_undone rM_kept iM_undos iM_images rM_fresher iM_fresherSize iM_scale iM_night rM_heardRow rM_cutRow iM_breaths iM_cutMany iM_allBreaths rM_trial rM_words iM_fewestBreaths iM_orderMany iM_orderSum iM_leastOrder rM_often iM_setMany iM_someOf iM_allOf iM_allWeight iM_enoughWeight iM_worthSum iM_firstRest iM_leastDrawn)] sz) [(oc7 oM niM_thrown rM_tape iM_taped iM_size iM_at iM_end iM_token iM_whole iM_nameSize iM_fault iM_place iM_trouble rM_letters iM_failed iM_hasCourt rM_r rM_fresh rM_told rM_read rM_st rM_undone rM_kept iM_undos iM_images rM_fresher iM_fresherSize iM_scale iM_night rM_heardRow rM_cutRow iM_breaths iM_cutMany iM_allBreaths rM_trial rM_words iM_fewestBreaths iM_orderMany iM_orderSum iM_leastOrder rM_often iM_setMany iM_someOf iM_allOf iM_allWeight iM_enoughWeight iM_worthSum iM_firstRest iM_leastDrawn)] [] t) (va_A [(oc7 oM iM_thrown rM_tape iM_taped iM_size iM_at iM_end iM_token iM_whole iM_nameSize iM_fault iM_place iM_trouble rM_letters iM_failed iM_hasCourt rM_r rM_fresh rM_told rM_read rM_st rM_undone rM_kept iM_undos iM_images rM_fresher iM_fresherSize iM_scale iM_night rM_heardRow rM_cutRow iM_breaths iM_cutMany iM_allBreaths rM_trial rM_words iM_fewestBreaths iM_orderMany iM_orderSum iM_leastOrder rM_often iM_setMany iM_someOf iM_allOf iM_allWeight iM_enoughWeight iM_worthSum iM_firstRest iM_leastDrawn)] sz)) 0 0 (va_A [(oc7 oM iM_thrown rM_tape iM_taped iM_size iM_at iM_end iM_token iM_whole iM_nameSize iM_fault iM_place iM_trouble rM_letters iM_failed iM_hasCourt rM_r rM_fresh rM_told rM_read rM_st rM_undone rM_kept iM_undos iM_images rM_fresher iM_fresherSize iM_scale iM_night rM_heardRow rM_cutRow iM_breaths iM_cutMany iM_allBreaths rM_trial rM_words iM_fewestBreaths iM_orderMany iM_orderSum iM_leastOrder rM_often iM_setMany iM_someOf iM_allOf iM_allWeight iM_enoughWeight iM_worthSum iM_firstRest iM_leastDrawn)] sz) := by
  refine Met.ofW (cc := cX7_trouble) (maxL := 1) (ret := (some .int)) pnX7 rfl ?_
  intro p e s m args below meth c s₁ B hml hv
  obtain ⟨rfl, hsz, hP, hK, hD0, hE⟩ := hv
  have hx := B.exec
  have hb := B.bytes
  have hr := B.returns
  have hts : ∀ w ∈ wG, w.before ([.ref oM] : List Value).toArray s = true := fun w h => atoms_spec (ws := Cond.code yX7_trouble cX7_trouble 1 (some .int) :: wG) B.pre w (List.mem_cons_of_mem _ h)
  have hown : s.vm.findClass RX7 = some m.cls := own_of B.named rfl
  have hlocks := B.notSynchronized
  subst hsz
  have hD := hD0.self (sz := s.heap.size)
  generalize hAe : va_A [(oc7 oM iM_thrown rM_tape iM_taped iM_size iM_at iM_end iM_token iM_whole iM_nameSize iM_fault iM_place iM_trouble rM_letters iM_failed iM_hasCourt rM_r rM_fresh rM_told rM_read rM_st rM_undone rM_kept iM_undos iM_images rM_fresher iM_fresherSize iM_scale iM_night rM_heardRow rM_cutRow iM_breaths iM_cutMany iM_allBreaths rM_trial rM_words iM_fewestBreaths iM_orderMany iM_orderSum iM_leastOrder rM_often iM_setMany iM_someOf iM_allOf iM_allWeight iM_enoughWeight iM_worthSum iM_firstRest iM_leastDrawn)] s.heap.size = A at hD hE ⊢
  have hA : ∀ q : Nat, s.heap.size ≤ q → A q := fun q h => by rw [← hAe]; exact Or.inr h
  have hS : va_S A s.heap s.heap [] := va_S.rf
  have hl := lv_entry ([.ref oM]) (n := 1) (Nat.le_of_ble_eq_true rfl)
  rw [lg_entry_eq]
  generalize (lg_sl ([.ref oM]) ++ List.replicate (1 - (lg_sl ([.ref oM])).length) Slot.unset).toArray = ls at hl ⊢
  have hl : lv_has ls 1 [(0, .ref oM)] := hl
  have hG := PX7_trouble_eq iM_trouble
  refine lv_aload_n hx hb dX7_trouble_0 rfl (lv_at hl 0 rfl) ?_
  refine lv_iconst (v := 0) hx hb dX7_trouble_1 (by decide) ?_
  refine va_put (D := (dC, dI)) (ci := 7) (v := .int 0) (ty := .int) (C := RX7) (T := TX7) (N := 48) hx hb hts inX7 tyX7 tyX7_ok nmX7 hown hK hP hD hS 0 rfl rfl 0 (by decide) (hts _ wd_184) (fun _ h9 => h9) rfl (by decide +kernel) rfl rfl (Nat.le_of_ble_eq_true rfl) dX7_trouble_2 (fun H locs hP hD hS => ?_)
  obtain ⟨hP, hD⟩ := wl2 (ws' := [(oc7 oM 0 rM_tape iM_taped iM_size iM_at iM_end iM_token iM_whole iM_nameSize iM_fault iM_place iM_trouble rM_letters iM_failed iM_hasCourt rM_r rM_fresh rM_told rM_read rM_st rM_undone rM_kept iM_undos iM_images rM_fresher iM_fresherSize iM_scale iM_night rM_heardRow rM_cutRow iM_breaths iM_cutMany iM_allBreaths rM_trial rM_words iM_fewestBreaths iM_orderMany iM_orderSum iM_leastOrder rM_often iM_setMany iM_someOf iM_allOf iM_allWeight iM_enoughWeight iM_worthSum iM_firstRest iM_leastDrawn)]) hP hD rfl
  refine lv_aload_n hx hb dX7_trouble_5 rfl (lv_at hl 0 rfl) ?_
  refine va_get (D := (dC, dI)) (ci := 7) (v := .int iM_trouble) (C := RX7) (T := TX7) (N := 48) hx hb hts inX7 hown hK hP 0 rfl rfl 11 (by decide) (hts _ wd_392) (fun _ h9 => h9) rfl dX7_trouble_6 ?_
  exact wq_i hx hb hr (cI iM_trouble) ⟨⟨trivial, trivial⟩, (cI_of iM_trouble)⟩ (fun t ht hW => ⟨0, (by decide), (cI_tup hG), Bw.to hP hD hK ht hW⟩) hS dX7_trouble_9 hlocks
set_option maxHeartbeats 4000000 in
set_option maxRecDepth 100000 in
theorem tX7_led (l : Launch) (dC : Nat → ClassId) (dI : Nat → Nat → Nat) (sz : Nat) (oM : Nat) (iM_thrown : Int32) (rM_tape : Nat) (iM_taped : Int32) (iM_size : Int32) (iM_at : Int32) (iM_end : Int32) (iM_token : Int32) (iM_whole : Int32) (iM_nameSize : Int32) (iM_fault : Int32) (iM_place : Int32) (iM_trouble : Int32) (rM_letters : Nat) (iM_failed : Int32) (iM_hasCourt : Int32) (rM_r : Nat) (fM_r : Nat → Int32) (kM_r : ClassId) (rM_fresh : Nat) (rM_told : Nat) (fM_told : Nat → Int32) (kM_told : ClassId) (rM_read : Nat) (rM_st : Nat) (fM_st : Nat → Int32) (kM_st : ClassId) (rM_undone : Nat) (rM_kept : Nat) (iM_undos : Int32) (iM_images : Int32) (rM_fresher : Nat) (iM_fresherSize : Int32) (iM_scale : Int32) (iM_night : Int32) (rM_heardRow : Nat) (fM_heardRow : Nat → Int32) (kM_heardRow : ClassId) (rM_cutRow : Nat) (fM_cutRow : Nat → Int32) (kM_cutRow : ClassId) (iM_breaths : Int32) (iM_cutMany : Int32) (iM_allBreaths : Int32) (rM_trial : Nat) (rM_words : Nat) (iM_fewestBreaths : Int32) (iM_orderMany : Int32) (iM_orderSum : Int32) (iM_leastOrder : Int32) (rM_often : Nat) (iM_setMany : Int32) (iM_someOf : Int32) (iM_allOf : Int32) (iM_allWeight : Int64) (iM_enoughWeight : Int64) (iM_worthSum : Int64) (iM_firstRest : Int32) (iM_leastDrawn : Int32) (p0 : Int32) (b_iM_taped : 0 ≤ iM_taped.toInt ∧ iM_taped.toInt ≤ 900) (b_iM_size : 0 ≤ iM_size.toInt ∧ iM_size.toInt ≤ 900) (b_iM_end : 0 ≤ iM_end.toInt ∧ iM_end.toInt ≤ 900) (b_iM_failed : 0 ≤ iM_failed.toInt ∧ iM_failed.toInt ≤ 1) (b_iM_hasCourt : 0 ≤ iM_hasCourt.toInt ∧ iM_hasCourt.toInt ≤ 1) (b_iM_undos : 0 ≤ iM_undos.toInt ∧ iM_undos.toInt ≤ 16) (b_iM_images : 0 ≤ iM_images.toInt ∧ iM_images.toInt ≤ 3) (b_iM_scale : 1 ≤ iM_scale.toInt ∧ iM_scale.toInt ≤ 1296) (b_iM_breaths : 0 ≤ iM_breaths.toInt ∧ iM_breaths.toInt ≤ 399) (b_iM_cutMany : 0 ≤ iM_cutMany.toInt ∧ iM_cutMany.toInt ≤ 399) (r_R : ROk fM_r) (r_C : iM_hasCourt.toInt ≤ 0 ∨ (1 ≤ (fM_r 1).toInt ∧ 0 ≤ (fM_r 6).toInt ∧ (fM_r 6).toInt < (fM_r 1).toInt)) (r_st : RowOk fM_r fM_st) (r_told : RowOk fM_r fM_told) (r_wst : WorOk fM_st)  : Met l yX7_led (Cond.code yX7_led cX7_led 5 (some .int) :: wG) ({ frames := 23, cells := 0, slots := 0, locals := 647 }) (va_Pc [.ref oM, .int p0] (Pw dC dI sz [(oc7 oM iM_thrown rM_tape iM_taped iM_size iM_at iM_end iM_token iM_whole iM_nameSize iM_fault iM_place iM_trouble rM_letters iM_failed iM_hasCourt rM_r rM_fresh rM_told rM_read rM_st rM_undone rM_kept iM_undos iM_images rM_fresher iM_fresherSize iM_scale iM_night rM_heardRow rM_cutRow iM_breaths iM_cutMany iM_allBreaths rM_trial rM_words iM_fewestBreaths iM_orderMany iM_orderSum iM_leastOrder rM_often iM_setMany iM_someOf iM_allOf iM_allWeight iM_enoughWeight iM_worthSum iM_firstRest iM_leastDrawn), (arI rM_r kM_r 287 fM_r), (arI rM_told kM_told 90 fM_told), (arI rM_st kM_st 90 fM_st), (arI rM_heardRow kM_heardRow 400 fM_heardRow), (arI rM_cutRow kM_cutRow 800 fM_cutRow)] [(kM_r, .int), (kM_told, .int), (kM_st, .int), (kM_heardRow, .int), (kM_cutRow, .int)])) (va_Qi (fun (r : Int32) (_ : Nat) => True ∧ True) (fun (_ : Nat) (t : State) => ∃ (niM_thrown : Int32) (niM_breaths : Int32) (niM_cutMany : Int32) (nfM_heardRow : Nat → Int32) (nfM_cutRow : Nat → Int32), (0 ≤ niM_thrown.toInt ∧ niM_thrown.toInt ≤ 1) ∧ (0 ≤ niM_breaths.toInt ∧ niM_breaths.toInt ≤ 399) ∧ (0 ≤ niM_cutMany.toInt ∧ niM_cutMany.toInt ≤ 399) ∧ Bw dC dI (va_A [(oc7 oM iM_thrown rM_tape iM_taped iM_size iM_at iM_end iM_token iM_whole iM_nameSize iM_fault iM_place iM_trouble rM_letters iM_failed iM_hasCourt rM_r rM_fresh rM_told rM_read rM_st rM_undone rM_kept iM_undos iM_images rM_fresher iM_fresherSize iM_scale iM_night rM_heardRow rM_cutRow iM_breaths iM_cutMany iM_allBreaths rM_trial rM_words iM_fewestBreaths iM_orderMany iM_orderSum iM_leastOrder rM_often iM_setMany iM_someOf iM_allOf iM_allWeight iM_enoughWeight iM_worthSum iM_firstRest iM_leastDrawn), (arI rM_r kM_r 287 fM_r), (arI rM_told kM_told 90 fM_told), (arI rM_st kM_st 90 fM_st), (arI rM_heardRow kM_heardRow 400 fM_heardRow), (arI rM_cutRow kM_cutRow 800 fM_cutRow)] sz) [(oc7 oM niM_thrown rM_tape iM_taped iM_size iM_at iM_end iM_token iM_whole iM_nameSize iM_fault iM_place iM_trouble rM_letters iM_failed iM_hasCourt rM_r rM_fresh rM_told rM_read rM_st rM_undone rM_kept iM_undos iM_images rM_fresher iM_fresherSize iM_scale iM_night rM_heardRow rM_cutRow niM_breaths niM_cutMany iM_allBreaths rM_trial rM_words iM_fewestBreaths iM_orderMany iM_orderSum iM_leastOrder rM_often iM_setMany iM_someOf iM_allOf iM_allWeight iM_enoughWeight iM_worthSum iM_firstRest iM_leastDrawn), (arI rM_r kM_r 287 fM_r), (arI rM_told kM_told 90 fM_told), (arI rM_st kM_st 90 fM_st), (arI rM_heardRow kM_heardRow 400 nfM_heardRow), (arI rM_cutRow kM_cutRow 800 nfM_cutRow)] [(kM_r, .int), (kM_told, .int), (kM_st, .int), (kM_heardRow, .int), (kM_cutRow, .int)] t) (va_A [(oc7 oM iM_thrown rM_tape iM_taped iM_size iM_at iM_end iM_token iM_whole iM_nameSize iM_fault iM_place iM_trouble rM_letters iM_failed iM_hasCourt rM_r rM_fresh rM_told rM_read rM_st rM_undone rM_kept iM_undos iM_images rM_fresher iM_fresherSize iM_scale iM_night rM_heardRow rM_cutRow iM_breaths iM_cutMany iM_allBreaths rM_trial rM_words iM_fewestBreaths iM_orderMany iM_orderSum iM_leastOrder rM_often iM_setMany iM_someOf iM_allOf iM_allWeight iM_enoughWeight iM_worthSum iM_firstRest iM_leastDrawn), (arI rM_r kM_r 287 fM_r), (arI rM_told kM_told 90 fM_told), (arI rM_st kM_st 90 fM_st), (arI rM_heardRow kM_heardRow 400 fM_heardRow), (arI rM_cutRow kM_cutRow 800 fM_cutRow)] sz)) 0 0 (va_A [(oc7 oM iM_thrown rM_tape iM_taped iM_size iM_at iM_end iM_token iM_whole iM_nameSize iM_fault iM_place iM_trouble rM_letters iM_failed iM_hasCourt rM_r rM_fresh rM_told rM_read rM_st rM_undone rM_kept iM_undos iM_images rM_fresher iM_fresherSize iM_scale iM_night rM_heardRow rM_cutRow iM_breaths iM_cutMany iM_allBreaths rM_trial rM_words iM_fewestBreaths iM_orderMany iM_orderSum iM_leastOrder rM_often iM_setMany iM_someOf iM_allOf iM_allWeight iM_enoughWeight iM_worthSum iM_firstRest iM_leastDrawn), (arI rM_r kM_r 287 fM_r), (arI rM_told kM_told 90 fM_told), (arI rM_st kM_st 90 fM_st), (arI rM_heardRow kM_heardRow 400 fM_heardRow), (arI rM_cutRow kM_cutRow 800 fM_cutRow)] sz) := by
  refine Met.ofW (cc := cX7_led) (maxL := 5) (ret := (some .int)) pnX7 rfl ?_
  intro p e s m args below meth c s₁ B hml hv
  obtain ⟨rfl, hsz, hP, hK, hD0, hE⟩ := hv
  have hx := B.exec
  have hb := B.bytes
  have hr := B.returns
  have hts : ∀ w ∈ wG, w.before ([.ref oM, .int p0] : List Value).toArray s = true := fun w h => atoms_spec (ws := Cond.code yX7_led cX7_led 5 (some .int) :: wG) B.pre w (List.mem_cons_of_mem _ h)
  have hown : s.vm.findClass RX7 = some m.cls := own_of B.named rfl
  have hlocks := B.notSynchronized
  subst hsz
  have hD := hD0.self (sz := s.heap.size)
  generalize hAe : va_A [(oc7 oM iM_thrown rM_tape iM_taped iM_size iM_at iM_end iM_token iM_whole iM_nameSize iM_fault iM_place iM_trouble rM_letters iM_failed iM_hasCourt rM_r rM_fresh rM_told rM_read rM_st rM_undone rM_kept iM_undos iM_images rM_fresher iM_fresherSize iM_scale iM_night rM_heardRow rM_cutRow iM_breaths iM_cutMany iM_allBreaths rM_trial rM_words iM_fewestBreaths iM_orderMany iM_orderSum iM_leastOrder rM_often iM_setMany iM_someOf iM_allOf iM_allWeight iM_enoughWeight iM_worthSum iM_firstRest iM_leastDrawn), (arI rM_r kM_r 287 fM_r), (arI rM_told kM_told 90 fM_told), (arI rM_st kM_st 90 fM_st), (arI rM_heardRow kM_heardRow 400 fM_heardRow), (arI rM_cutRow kM_cutRow 800 fM_cutRow)] s.heap.size = A at hD hE ⊢
  have hA : ∀ q : Nat, s.heap.size ≤ q → A q := fun q h => by rw [← hAe]; exact Or.inr h
  have hS : va_S A s.heap s.heap [] := va_S.rf
  have hl := lv_entry ([.ref oM, .int p0]) (n := 5) (Nat.le_of_ble_eq_true rfl)
  rw [lg_entry_eq]
  generalize (lg_sl ([.ref oM, .int p0]) ++ List.replicate (5 - (lg_sl ([.ref oM, .int p0])).length) Slot.unset).toArray = ls at hl ⊢
  have hl : lv_has ls 5 [(0, .ref oM), (1, .int p0)] := hl
  have rg_p0 := fb_rng p0
  have s_slips := r_R.slips
  have s_nodes := r_R.nodes
  have s_uns := r_R.uns
  refine lv_iconst (v := 0) hx hb dX7_led_0 (by decide) ?_
  refine lv_istore_n (lv' := [(2, .int 0), (0, .ref oM), (1, .int p0)]) hx hb dX7_led_1 rfl hl (by decide) rfl (fun ls hl => ?_)
  refine lv_aload_n hx hb dX7_led_2 rfl (lv_at hl 1 rfl) ?_
  rcases (show iM_hasCourt.toInt ≤ 0 ∨ (1 ≤ iM_hasCourt.toInt ∧ 1 ≤ (fM_r 1).toInt ∧ 0 ≤ (fM_r 6).toInt ∧ (fM_r 6).toInt < (fM_r 1).toInt) from by omega) with r_C0 | r_C1
  · skip
    refine va_get (D := (dC, dI)) (ci := 7) (v := .int iM_hasCourt) (C := RX7) (T := TX7) (N := 48) hx hb hts inX7 hown hK hP 0 rfl rfl 14 (by decide) (hts _ wd_385) (fun _ h9 => h9) rfl dX7_led_3 ?_
    have rg_iM_hasCourt := fb_rng iM_hasCourt
    refine lv_if_eq (tgt := 16) hx hb dX7_led_6 (by decide) (fun c_3297 => ?_) (fun c_3297 => ?_)
    · skip
      have gc_3297 := ti_eq c_3297 rfl kc_0
      refine lv_iconst (v := 0) hx hb dX7_led_16 (by decide) ?_
      refine lv_istore_n (lv' := [(3, .int 0), (2, .int 0), (0, .ref oM), (1, .int p0)]) hx hb dX7_led_17 rfl hl (by decide) rfl (fun ls hl => ?_)
      refine lv_iconst (v := 0) hx hb dX7_led_18 (by decide) ?_
      refine lv_istore (lv' := [(4, .int 0), (3, .int 0), (2, .int 0), (0, .ref oM), (1, .int p0)]) hx hb dX7_led_19 hl (by decide) rfl (fun ls hl => ?_)
      have hl := lv_sub hl (l' := [(4, .int 0), (3, .int 0), (2, .int 0), (0, .ref oM), (1, .int p0)]) [0, 1, 2, 3, 4] rfl
      have key_n_3300 : ∀ (n_3300 : Nat) (z_3298 : Int32) (z_3299 : Int32) (H : Heap) (locs : List Loc) (ls : Array Slot), (0 ≤ z_3298.toInt ∧ z_3298.toInt ≤ 2147483647) → (2147483647 - z_3298.toInt).toNat < n_3300 → va_P (dC, dI) vwCl [(oc7 oM iM_thrown rM_tape iM_taped iM_size iM_at iM_end iM_token iM_whole iM_nameSize iM_fault iM_place iM_trouble rM_letters iM_failed iM_hasCourt rM_r rM_fresh rM_told rM_read rM_st rM_undone rM_kept iM_undos iM_images rM_fresher iM_fresherSize iM_scale iM_night rM_heardRow rM_cutRow iM_breaths iM_cutMany iM_allBreaths rM_trial rM_words iM_fewestBreaths iM_orderMany iM_orderSum iM_leastOrder rM_often iM_setMany iM_someOf iM_allOf iM_allWeight iM_enoughWeight iM_worthSum iM_firstRest iM_leastDrawn), (arI rM_r kM_r 287 fM_r), (arI rM_told kM_told 90 fM_told), (arI rM_st kM_st 90 fM_st), (arI rM_heardRow kM_heardRow 400 fM_heardRow), (arI rM_cutRow kM_cutRow 800 fM_cutRow)] H → va_D A [(oc7 oM iM_thrown rM_tape iM_taped iM_size iM_at iM_end iM_token iM_whole iM_nameSize iM_fault iM_place iM_trouble rM_letters iM_failed iM_hasCourt rM_r rM_fresh rM_told rM_read rM_st rM_undone rM_kept iM_undos iM_images rM_fresher iM_fresherSize iM_scale iM_night rM_heardRow rM_cutRow iM_breaths iM_cutMany iM_allBreaths rM_trial rM_words iM_fewestBreaths iM_orderMany iM_orderSum iM_leastOrder rM_often iM_setMany iM_someOf iM_allOf iM_allWeight iM_enoughWeight iM_worthSum iM_firstRest iM_leastDrawn), (arI rM_r kM_r 287 fM_r), (arI rM_told kM_told 90 fM_told), (arI rM_st kM_st 90 fM_st), (arI rM_heardRow kM_heardRow 400 fM_heardRow), (arI rM_cutRow kM_cutRow 800 fM_cutRow)] → va_S A s.heap H locs → lv_has ls 5 [(4, .int z_3298), (3, .int 0), (2, .int z_3299), (0, .ref oM), (1, .int p0)] → W p l e (headSpec (Cond.code yX7_led cX7_led 5 (some .int) :: wG) ({ frames := 23, cells := 0, slots := 0, locals := 647 })).room s m ([.ref oM, .int p0] : List Value).toArray below meth c H locs 0 0 (MQ below (va_Qi (fun (r : Int32) (_ : Nat) => True ∧ True) (fun (_ : Nat) (t : State) => ∃ (niM_thrown : Int32) (niM_breaths : Int32) (niM_cutMany : Int32) (nfM_heardRow : Nat → Int32) (nfM_cutRow : Nat → Int32), (0 ≤ niM_thrown.toInt ∧ niM_thrown.toInt ≤ 1) ∧ (0 ≤ niM_breaths.toInt ∧ niM_breaths.toInt ≤ 399) ∧ (0 ≤ niM_cutMany.toInt ∧ niM_cutMany.toInt ≤ 399) ∧ Bw dC dI A [(oc7 oM niM_thrown rM_tape iM_taped iM_size iM_at iM_end iM_token iM_whole iM_nameSize iM_fault iM_place iM_trouble rM_letters iM_failed iM_hasCourt rM_r rM_fresh rM_told rM_read rM_st rM_undone rM_kept iM_undos iM_images rM_fresher iM_fresherSize iM_scale iM_night rM_heardRow rM_cutRow niM_breaths niM_cutMany iM_allBreaths rM_trial rM_words iM_fewestBreaths iM_orderMany iM_orderSum iM_leastOrder rM_often iM_setMany iM_someOf iM_allOf iM_allWeight iM_enoughWeight iM_worthSum iM_firstRest iM_leastDrawn), (arI rM_r kM_r 287 fM_r), (arI rM_told kM_told 90 fM_told), (arI rM_st kM_st 90 fM_st), (arI rM_heardRow kM_heardRow 400 nfM_heardRow), (arI rM_cutRow kM_cutRow 800 nfM_cutRow)] [(kM_r, .int), (kM_told, .int), (kM_st, .int), (kM_heardRow, .int), (kM_cutRow, .int)] t) A) ([.ref oM, .int p0] : List Value).toArray s 0 0 A) (F0 m 21 ls []) := by
        intro n_3300
        induction n_3300 with
        | zero => intro z_3298 z_3299 H locs ls hi0_n_3300 hm; exact absurd hm (Nat.not_lt_zero _)
        | succ n_3300 ih_n_3300 =>
          intro z_3298 z_3299 H locs ls hi0_n_3300 hm_n_3300 hP hD hS hl
          have rg_z_3298 := fb_rng z_3298
          have rg_z_3299 := fb_rng z_3299
          refine lv_aload_n hx hb dX7_led_21 rfl (lv_at hl 3 rfl) ?_
          refine va_get (D := (dC, dI)) (ci := 7) (v := .int iM_hasCourt) (C := RX7) (T := TX7) (N := 48) hx hb hts inX7 hown hK hP 0 rfl rfl 14 (by decide) (hts _ wd_385) (fun _ h9 => h9) rfl dX7_led_22 ?_
          refine lv_if_eq (tgt := 86) hx hb dX7_led_25 (by decide) (fun c_3301 => ?_) (fun c_3301 => ?_)
          · skip
            have gc_3301 := ti_eq c_3301 rfl kc_0
            refine lv_aload_n hx hb dX7_led_86 rfl (lv_at hl 3 rfl) ?_
            refine lv_iconst (v := 1) hx hb dX7_led_87 (by decide) ?_
            refine va_put (D := (dC, dI)) (ci := 7) (v := .int 1) (ty := .int) (C := RX7) (T := TX7) (N := 48) hx hb hts inX7 tyX7 tyX7_ok nmX7 hown hK hP hD hS 0 rfl rfl 0 (by decide) (hts _ wd_184) (fun _ h9 => h9) rfl (by decide +kernel) rfl rfl (Nat.le_of_ble_eq_true rfl) dX7_led_88 (fun H locs hP hD hS => ?_)
            obtain ⟨hP, hD⟩ := wl2 (ws' := [(oc7 oM 1 rM_tape iM_taped iM_size iM_at iM_end iM_token iM_whole iM_nameSize iM_fault iM_place iM_trouble rM_letters iM_failed iM_hasCourt rM_r rM_fresh rM_told rM_read rM_st rM_undone rM_kept iM_undos iM_images rM_fresher iM_fresherSize iM_scale iM_night rM_heardRow rM_cutRow iM_breaths iM_cutMany iM_allBreaths rM_trial rM_words iM_fewestBreaths iM_orderMany iM_orderSum iM_leastOrder rM_often iM_setMany iM_someOf iM_allOf iM_allWeight iM_enoughWeight iM_worthSum iM_firstRest iM_leastDrawn), (arI rM_r kM_r 287 fM_r), (arI rM_told kM_told 90 fM_told), (arI rM_st kM_st 90 fM_st), (arI rM_heardRow kM_heardRow 400 fM_heardRow), (arI rM_cutRow kM_cutRow 800 fM_cutRow)]) hP hD rfl
            refine lv_iconst (v := 0) hx hb dX7_led_91 (by decide) ?_
            exact wq_i hx hb hr 0 ⟨trivial, trivial⟩ (fun t ht hW => ⟨1, iM_breaths, iM_cutMany, fM_heardRow, fM_cutRow, (by decide), ⟨b_iM_breaths.1, b_iM_breaths.2⟩, ⟨b_iM_cutMany.1, b_iM_cutMany.2⟩, Bw.to hP hD hK ht hW⟩) hS dX7_led_92 hlocks
          · skip
            have gc_3301 := ti_ne c_3301 rfl kc_0
            exact (om_c9ba8b89 gc_3301 r_C0 b_iM_hasCourt.1).elim
      exact key_n_3300 (((2147483647 - (0 : Int32).toInt).toNat) + 1) 0 0 _ _ _  ⟨(om_b1de7dbe kc_0), (om_daf17c64 kc_0)⟩ (Nat.lt_add_one _) hP hD hS hl
    · skip
      have gc_3297 := ti_ne c_3297 rfl kc_0
      exact (om_c9ba8b89 gc_3297 r_C0 b_iM_hasCourt.1).elim
  · skip
    refine va_get (D := (dC, dI)) (ci := 7) (v := .int iM_hasCourt) (C := RX7) (T := TX7) (N := 48) hx hb hts inX7 hown hK hP 0 rfl rfl 14 (by decide) (hts _ wd_385) (fun _ h9 => h9) rfl dX7_led_3 ?_
    have rg_iM_hasCourt := fb_rng iM_hasCourt
    refine lv_if_eq (tgt := 16) hx hb dX7_led_6 (by decide) (fun c_3302 => ?_) (fun c_3302 => ?_)
    · skip
      have gc_3302 := ti_eq c_3302 rfl kc_0
      exact ((om_9887bb99 r_C1.1 gc_3302)).elim
    · skip
      have gc_3302 := ti_ne c_3302 rfl kc_0
      refine lv_aload_n hx hb dX7_led_9 rfl (lv_at hl 1 rfl) ?_
      have hFc := va_freeI hD hS hA
      refine va_calli (va_runV (As := []) (rest := []) ⟨hx, hb, hml, hown, hts⟩ (tX7_heardSet l dC dI _ oM iM_thrown rM_tape iM_taped iM_size iM_at iM_end iM_token iM_whole iM_nameSize iM_fault iM_place iM_trouble rM_letters iM_failed iM_hasCourt rM_r fM_r kM_r rM_fresh rM_told fM_told kM_told rM_read rM_st fM_st kM_st rM_undone rM_kept iM_undos iM_images rM_fresher iM_fresherSize iM_scale iM_night rM_heardRow fM_heardRow kM_heardRow rM_cutRow fM_cutRow kM_cutRow iM_breaths iM_cutMany iM_allBreaths rM_trial rM_words iM_fewestBreaths iM_orderMany iM_orderSum iM_leastOrder rM_often iM_setMany iM_someOf iM_allOf iM_allWeight iM_enoughWeight iM_worthSum iM_firstRest iM_leastDrawn b_iM_taped b_iM_size b_iM_end b_iM_failed b_iM_hasCourt b_iM_undos b_iM_images b_iM_scale b_iM_breaths b_iM_cutMany (by assumption) (by assumption) (by assumption) (by assumption) (by assumption) ⟨r_C1.2.2.1, r_C1.2.2.2⟩) (cwV 0 hts (wd_V wd_808 wd_809 wd_810 wd_5 (wd_c wd_811)) rfl rfl rfl dv_yX7_heardSet_0 ⟨Nat.le_of_ble_eq_true rfl, Nat.le_of_ble_eq_true rfl⟩) ⟨Pw.fb, recvX7 hK hP (q0 := 0) rfl, fun U hU hW => Pw.to hP hD hK hE hS hFc hU hW⟩ rfl rfl hl.1 rfl (lv_room (Nat.le_of_ble_eq_true rfl)) dX7_led_10 ⟨Nat.le_of_ble_eq_true rfl, Nat.le_of_ble_eq_true rfl⟩) hS (fun q _ h => hFc q h) hFc (fun r u t H locs ht hvm hw hB hz1 hk1 hS => ?_)
      have hru9 := hw.2
      have hw := hw.1
      refine ex_4_3 hB (fun x_3303 x_3304 f_3305 f_3306 b_x_3303 b_x_3304 e_x_3303_0 hB => ?_)
      obtain ⟨hP, hD⟩ := Bw.goA (ws' := [(oc7 oM iM_thrown rM_tape iM_taped iM_size iM_at iM_end iM_token iM_whole iM_nameSize iM_fault iM_place iM_trouble rM_letters iM_failed iM_hasCourt rM_r rM_fresh rM_told rM_read rM_st rM_undone rM_kept iM_undos iM_images rM_fresher iM_fresherSize iM_scale iM_night rM_heardRow rM_cutRow x_3303 x_3304 iM_allBreaths rM_trial rM_words iM_fewestBreaths iM_orderMany iM_orderSum iM_leastOrder rM_often iM_setMany iM_someOf iM_allOf iM_allWeight iM_enoughWeight iM_worthSum iM_firstRest iM_leastDrawn), (arI rM_r kM_r 287 fM_r), (arI rM_told kM_told 90 fM_told), (arI rM_st kM_st 90 fM_st), (arI rM_heardRow kM_heardRow 400 f_3305), (arI rM_cutRow kM_cutRow 800 f_3306)]) hB rfl ht hFc rfl
      clear hz1 hk1 hvm ht hB
      have rg_x_3303 := fb_rng x_3303
      have rg_x_3304 := fb_rng x_3304
      obtain ⟨x_3307, rfl⟩ : ∃ z, z = r := ⟨_, rfl⟩
      have rg_x_3307 := fb_rng x_3307
      refine lv_goto (tgt := 17) hx hb dX7_led_13 (by decide) ?_
      refine lv_istore_n (lv' := [(3, .int x_3307), (2, .int 0), (0, .ref oM), (1, .int p0)]) hx hb dX7_led_17 rfl hl (by decide) rfl (fun ls hl => ?_)
      refine lv_iconst (v := 0) hx hb dX7_led_18 (by decide) ?_
      refine lv_istore (lv' := [(4, .int 0), (3, .int x_3307), (2, .int 0), (0, .ref oM), (1, .int p0)]) hx hb dX7_led_19 hl (by decide) rfl (fun ls hl => ?_)
      have hl := lv_sub hl (l' := [(4, .int 0), (3, .int x_3307), (2, .int 0), (0, .ref oM), (1, .int p0)]) [0, 1, 2, 3, 4] rfl
      have key_n_3310 : ∀ (n_3310 : Nat) (z_3308 : Int32) (z_3309 : Int32) (H : Heap) (locs : List Loc) (ls : Array Slot), (0 ≤ z_3308.toInt ∧ z_3308.toInt ≤ 2147483647) → (2147483647 - z_3308.toInt).toNat < n_3310 → va_P (dC, dI) vwCl [(oc7 oM iM_thrown rM_tape iM_taped iM_size iM_at iM_end iM_token iM_whole iM_nameSize iM_fault iM_place iM_trouble rM_letters iM_failed iM_hasCourt rM_r rM_fresh rM_told rM_read rM_st rM_undone rM_kept iM_undos iM_images rM_fresher iM_fresherSize iM_scale iM_night rM_heardRow rM_cutRow x_3303 x_3304 iM_allBreaths rM_trial rM_words iM_fewestBreaths iM_orderMany iM_orderSum iM_leastOrder rM_often iM_setMany iM_someOf iM_allOf iM_allWeight iM_enoughWeight iM_worthSum iM_firstRest iM_leastDrawn), (arI rM_r kM_r 287 fM_r), (arI rM_told kM_told 90 fM_told), (arI rM_st kM_st 90 fM_st), (arI rM_heardRow kM_heardRow 400 f_3305), (arI rM_cutRow kM_cutRow 800 f_3306)] H → va_D A [(oc7 oM iM_thrown rM_tape iM_taped iM_size iM_at iM_end iM_token iM_whole iM_nameSize iM_fault iM_place iM_trouble rM_letters iM_failed iM_hasCourt rM_r rM_fresh rM_told rM_read rM_st rM_undone rM_kept iM_undos iM_images rM_fresher iM_fresherSize iM_scale iM_night rM_heardRow rM_cutRow x_3303 x_3304 iM_allBreaths rM_trial rM_words iM_fewestBreaths iM_orderMany iM_orderSum iM_leastOrder rM_often iM_setMany iM_someOf iM_allOf iM_allWeight iM_enoughWeight iM_worthSum iM_firstRest iM_leastDrawn), (arI rM_r kM_r 287 fM_r), (arI rM_told kM_told 90 fM_told), (arI rM_st kM_st 90 fM_st), (arI rM_heardRow kM_heardRow 400 f_3305), (arI rM_cutRow kM_cutRow 800 f_3306)] → va_S A s.heap H locs → lv_has ls 5 [(4, .int z_3308), (3, .int x_3307), (2, .int z_3309), (0, .ref oM), (1, .int p0)] → W p l e (headSpec (Cond.code yX7_led cX7_led 5 (some .int) :: wG) ({ frames := 23, cells := 0, slots := 0, locals := 647 })).room s m ([.ref oM, .int p0] : List Value).toArray below meth c H locs 0 0 (MQ below (va_Qi (fun (r : Int32) (_ : Nat) => True ∧ True) (fun (_ : Nat) (t : State) => ∃ (niM_thrown : Int32) (niM_breaths : Int32) (niM_cutMany : Int32) (nfM_heardRow : Nat → Int32) (nfM_cutRow : Nat → Int32), (0 ≤ niM_thrown.toInt ∧ niM_thrown.toInt ≤ 1) ∧ (0 ≤ niM_breaths.toInt ∧ niM_breaths.toInt ≤ 399) ∧ (0 ≤ niM_cutMany.toInt ∧ niM_cutMany.toInt ≤ 399) ∧ Bw dC dI A [(oc7 oM niM_thrown rM_tape iM_taped iM_size iM_at iM_end iM_token iM_whole iM_nameSize iM_fault iM_place iM_trouble rM_letters iM_failed iM_hasCourt rM_r rM_fresh rM_told rM_read rM_st rM_undone rM_kept iM_undos iM_images rM_fresher iM_fresherSize iM_scale iM_night rM_heardRow rM_cutRow niM_breaths niM_cutMany iM_allBreaths rM_trial rM_words iM_fewestBreaths iM_orderMany iM_orderSum iM_leastOrder rM_often iM_setMany iM_someOf iM_allOf iM_allWeight iM_enoughWeight iM_worthSum iM_firstRest iM_leastDrawn), (arI rM_r kM_r 287 fM_r), (arI rM_told kM_told 90 fM_told), (arI rM_st kM_st 90 fM_st), (arI rM_heardRow kM_heardRow 400 nfM_heardRow), (arI rM_cutRow kM_cutRow 800 nfM_cutRow)] [(kM_r, .int), (kM_told, .int), (kM_st, .int), (kM_heardRow, .int), (kM_cutRow, .int)] t) A) ([.ref oM, .int p0] : List Value).toArray s 0 0 A) (F0 m 21 ls []) := by
        intro n_3310
        induction n_3310 with
        | zero => intro z_3308 z_3309 H locs ls hi0_n_3310 hm; exact absurd hm (Nat.not_lt_zero _)
        | succ n_3310 ih_n_3310 =>
          intro z_3308 z_3309 H locs ls hi0_n_3310 hm_n_3310 hP hD hS hl
          have rg_z_3308 := fb_rng z_3308
          have rg_z_3309 := fb_rng z_3309
          refine lv_aload_n hx hb dX7_led_21 rfl (lv_at hl 3 rfl) ?_
          refine va_get (D := (dC, dI)) (ci := 7) (v := .int iM_hasCourt) (C := RX7) (T := TX7) (N := 48) hx hb hts inX7 hown hK hP 0 rfl rfl 14 (by decide) (hts _ wd_385) (fun _ h9 => h9) rfl dX7_led_22 ?_
          refine lv_if_eq (tgt := 86) hx hb dX7_led_25 (by decide) (fun c_3311 => ?_) (fun c_3311 => ?_)
          · skip
            have gc_3311 := ti_eq c_3311 rfl kc_0
            exact ((om_9887bb99 r_C1.1 gc_3311)).elim
          · skip
            have gc_3311 := ti_ne c_3311 rfl kc_0
            refine lv_iload hx hb dX7_led_28 (lv_at hl 0 rfl) ?_
            refine lv_aload_n hx hb dX7_led_30 rfl (lv_at hl 3 rfl) ?_
            refine va_get (D := (dC, dI)) (ci := 7) (v := .ref rM_r) (C := RX7) (T := TX7) (N := 48) hx hb hts inX7 hown hK hP 0 rfl rfl 15 (by decide) (hts _ wd_155) (fun _ h9 => h9) rfl dX7_led_31 ?_
            refine lv_iconst (v := 1) hx hb dX7_led_34 (by decide) ?_
            refine va_iald hx hb hK hP 1 0 rfl rfl (by unfold vp_in; decide) dX7_led_35 ?_
            refine lv_topi (fun x_3312 ex_3312 => ?_)
            have rg_x_3312 := fb_rng x_3312
            have cx_3312 : (fM_r 1).toInt = x_3312.toInt := congrArg Int32.toInt (show fM_r 1 = x_3312 from ex_3312.symm)
            have sx_3312 := r_R.nodes
            refine lv_icmp_ge (tgt := 86) hx hb dX7_led_36 (by decide) (fun c_3313 => ?_) (fun c_3313 => ?_)
            · skip
              have gc_3313 := ti_le c_3313 rfl rfl
              refine lv_aload_n hx hb dX7_led_86 rfl (lv_at hl 3 rfl) ?_
              refine lv_iconst (v := 1) hx hb dX7_led_87 (by decide) ?_
              refine va_put (D := (dC, dI)) (ci := 7) (v := .int 1) (ty := .int) (C := RX7) (T := TX7) (N := 48) hx hb hts inX7 tyX7 tyX7_ok nmX7 hown hK hP hD hS 0 rfl rfl 0 (by decide) (hts _ wd_184) (fun _ h9 => h9) rfl (by decide +kernel) rfl rfl (Nat.le_of_ble_eq_true rfl) dX7_led_88 (fun H locs hP hD hS => ?_)
              obtain ⟨hP, hD⟩ := wl2 (ws' := [(oc7 oM 1 rM_tape iM_taped iM_size iM_at iM_end iM_token iM_whole iM_nameSize iM_fault iM_place iM_trouble rM_letters iM_failed iM_hasCourt rM_r rM_fresh rM_told rM_read rM_st rM_undone rM_kept iM_undos iM_images rM_fresher iM_fresherSize iM_scale iM_night rM_heardRow rM_cutRow x_3303 x_3304 iM_allBreaths rM_trial rM_words iM_fewestBreaths iM_orderMany iM_orderSum iM_leastOrder rM_often iM_setMany iM_someOf iM_allOf iM_allWeight iM_enoughWeight iM_worthSum iM_firstRest iM_leastDrawn), (arI rM_r kM_r 287 fM_r), (arI rM_told kM_told 90 fM_told), (arI rM_st kM_st 90 fM_st), (arI rM_heardRow kM_heardRow 400 f_3305), (arI rM_cutRow kM_cutRow 800 f_3306)]) hP hD rfl
              refine lv_iconst (v := 0) hx hb dX7_led_91 (by decide) ?_
              exact wq_i hx hb hr 0 ⟨trivial, trivial⟩ (fun t ht hW => ⟨1, x_3303, x_3304, f_3305, f_3306, (by decide), b_x_3303, b_x_3304, Bw.to hP hD hK ht hW⟩) hS dX7_led_92 hlocks
            · skip
              have gc_3313 := ti_nle c_3313 rfl rfl
              refine lv_aload_n hx hb dX7_led_39 rfl (lv_at hl 3 rfl) ?_
              refine va_get (D := (dC, dI)) (ci := 7) (v := .ref rM_r) (C := RX7) (T := TX7) (N := 48) hx hb hts inX7 hown hK hP 0 rfl rfl 15 (by decide) (hts _ wd_155) (fun _ h9 => h9) rfl dX7_led_40 ?_
              refine lv_bipush (v := 9) hx hb dX7_led_43 (by decide) ?_
              refine lv_iload hx hb dX7_led_45 (lv_at hl 0 rfl) ?_
              refine lv_iadd hx hb dX7_led_47 ?_
              refine lv_topi (fun x_3314 ex_3314 => ?_)
              have vx_3314 : x_3314.toInt = z_3308.toInt + 9 := om_296ce4dd (ti_add ex_3314 kc_9 rfl (om_090bbef4 hi0_n_3310.1) (om_a45db860 s_nodes.2 cx_3312 gc_3313))
              refine va_iald hx hb hK hP 1 0 rfl rfl (ti_in vx_3314 (om_edbe2e4c hi0_n_3310.1) (om_9da1971f s_nodes.2 cx_3312 gc_3313)) dX7_led_48 ?_
              refine lv_topi (fun x_3315 ex_3315 => ?_)
              have rg_x_3315 := fb_rng x_3315
              have kx_3315 : (fM_r x_3314.toNatClampNeg).toInt = x_3315.toInt := by rw [ex_3315]
              have cx_3315 : (fM_r (9 + z_3308.toNatClampNeg)).toInt = x_3315.toInt := by rw [show 9 + z_3308.toNatClampNeg = x_3314.toNatClampNeg from (om_32f1c3e7 (ti_cl (x := z_3308) rfl hi0_n_3310.1) (ti_cl (x := x_3314) vx_3314 (om_edbe2e4c hi0_n_3310.1)))]; exact kx_3315
              have sx_3315 := r_R.kind x_3314.toNatClampNeg (om_462cc4af (ti_cl (x := x_3314) vx_3314 (om_edbe2e4c hi0_n_3310.1)) hi0_n_3310.1) (om_19da1274 (ti_cl (x := x_3314) vx_3314 (om_edbe2e4c hi0_n_3310.1)) s_nodes.2 cx_3312 gc_3313)
              refine lv_if_ne (tgt := 80) hx hb dX7_led_49 (by decide) (fun c_3316 => ?_) (fun c_3316 => ?_)
              · skip
                have gc_3316 := ti_ne c_3316 rfl kc_0
                obtain ⟨x_3317, ex_3317⟩ : ∃ z : Int32, z = z_3308 + Int32.ofInt 1 := ⟨_, rfl⟩
                have vx_3317 : x_3317.toInt = z_3308.toInt + 1 := ti_add (y := 1) ex_3317 rfl kc_1 (om_4e4fce7e hi0_n_3310.1) (om_83bd38f8 s_nodes.2 cx_3312 gc_3313)
                refine lv_iinc (v := x_3317) (lv' := [(4, .int x_3317), (3, .int x_3307), (2, .int z_3309), (0, .ref oM), (1, .int p0)]) hx hb dX7_led_80 hl (k := 0) rfl ex_3317.symm (by decide) rfl (fun ls hl => ?_)
                refine lv_goto (tgt := 21) hx hb dX7_led_83 (by decide) ?_
                exact ih_n_3310 x_3317 z_3309 _ _ _  ⟨(om_83b90de5 hi0_n_3310.1 vx_3317), (om_3052bbb6 s_nodes.2 cx_3312 gc_3313 vx_3317)⟩ (ms_lt hm_n_3310 (om_b9393183 vx_3317) (om_5f9db36c s_nodes.2 cx_3312 gc_3313)) hP hD hS (lv_sub hl [0, 1, 2, 3, 4] rfl)
              · skip
                have gc_3316 := ti_eq c_3316 rfl kc_0
                refine lv_iload_n hx hb dX7_led_52 rfl (lv_at hl 1 rfl) ?_
                refine lv_iload hx hb dX7_led_53 (lv_at hl 0 rfl) ?_
                have hFc : ∀ q, va_A [] _ q → A q := fun q h => hA q (Nat.le_trans hS.1 (va_nilA h))
                refine va_calli (va_runS (As := [.int x_3307, .int z_3308]) (rest := []) ⟨hx, hb, hml, hown, hts⟩ (tX7_hasBit l dC dI _ x_3307 z_3308 ) (va_cwS 2 hts (wd_S wd_968 wd_969 wd_5 (wd_c wd_970)) rfl rfl rfl ds_yX7_hasBit_2 ⟨Nat.le_of_ble_eq_true rfl, Nat.le_of_ble_eq_true rfl⟩) ⟨Pw.fb, fun U hU hW => Pn.to hK hE hS hA hU hW⟩ rfl rfl hl.1 rfl (lv_room (Nat.le_of_ble_eq_true rfl)) dX7_led_55 ⟨Nat.le_of_ble_eq_true rfl, Nat.le_of_ble_eq_true rfl⟩) hS (fun q _ h => hFc q h) hFc (fun r u t H locs ht hvm hw hB hz1 hk1 hS => ?_)
                obtain ⟨hP, hD, hK⟩ := Bw.same ht hvm hP hD hK hk1 hFc
                clear hz1 hk1 hvm ht hB
                have hq9 := hw.2
                have hw := hw.1
                obtain ⟨x_3318, rfl⟩ : ∃ z, z = r := ⟨_, rfl⟩
                have rg_x_3318 := fb_rng x_3318
                have bx_3318 := hw.1
                have dx_3318 := bz_tb bx_3318
                refine lv_if_eq (tgt := 64) hx hb dX7_led_58 (by decide) (fun c_3319 => ?_) (fun c_3319 => ?_)
                · skip
                  have gc_3319 := ti_eq c_3319 rfl kc_0
                  refine lv_iload_n hx hb dX7_led_64 rfl (lv_at hl 2 rfl) ?_
                  refine lv_iload_n hx hb dX7_led_65 rfl (lv_at hl 4 rfl) ?_
                  refine lv_icmp_ne (tgt := 77) hx hb dX7_led_66 (by decide) (fun c_3320 => ?_) (fun c_3320 => ?_)
                  · skip
                    have gc_3320 := ti_ne c_3320 rfl rfl
                    obtain ⟨x_3321, ex_3321⟩ : ∃ z : Int32, z = z_3309 + Int32.ofInt 1 := ⟨_, rfl⟩
                    have rg_x_3321 := fb_rng x_3321
                    refine lv_iinc (v := x_3321) (lv' := [(2, .int x_3321), (4, .int z_3308), (3, .int x_3307), (0, .ref oM), (1, .int p0)]) hx hb dX7_led_77 hl (k := 2) rfl ex_3321.symm (by decide) rfl (fun ls hl => ?_)
                    obtain ⟨x_3322, ex_3322⟩ : ∃ z : Int32, z = z_3308 + Int32.ofInt 1 := ⟨_, rfl⟩
                    have vx_3322 : x_3322.toInt = z_3308.toInt + 1 := ti_add (y := 1) ex_3322 rfl kc_1 (om_4e4fce7e hi0_n_3310.1) (om_83bd38f8 s_nodes.2 cx_3312 gc_3313)
                    refine lv_iinc (v := x_3322) (lv' := [(4, .int x_3322), (2, .int x_3321), (3, .int x_3307), (0, .ref oM), (1, .int p0)]) hx hb dX7_led_80 hl (k := 1) rfl ex_3322.symm (by decide) rfl (fun ls hl => ?_)
                    refine lv_goto (tgt := 21) hx hb dX7_led_83 (by decide) ?_
                    exact ih_n_3310 x_3322 x_3321 _ _ _  ⟨(om_83b90de5 hi0_n_3310.1 vx_3322), (om_3052bbb6 s_nodes.2 cx_3312 gc_3313 vx_3322)⟩ (ms_lt hm_n_3310 (om_b9393183 vx_3322) (om_5f9db36c s_nodes.2 cx_3312 gc_3313)) hP hD hS (lv_sub hl [0, 2, 1, 3, 4] rfl)
                  · skip
                    have gc_3320 := ti_eq c_3320 rfl rfl
                    refine lv_aload_n hx hb dX7_led_69 rfl (lv_at hl 3 rfl) ?_
                    refine lv_iconst (v := 0) hx hb dX7_led_70 (by decide) ?_
                    refine va_put (D := (dC, dI)) (ci := 7) (v := .int 0) (ty := .int) (C := RX7) (T := TX7) (N := 48) hx hb hts inX7 tyX7 tyX7_ok nmX7 hown hK hP hD hS 0 rfl rfl 0 (by decide) (hts _ wd_184) (fun _ h9 => h9) rfl (by decide +kernel) rfl rfl (Nat.le_of_ble_eq_true rfl) dX7_led_71 (fun H locs hP hD hS => ?_)
                    obtain ⟨hP, hD⟩ := wl2 (ws' := [(oc7 oM 0 rM_tape iM_taped iM_size iM_at iM_end iM_token iM_whole iM_nameSize iM_fault iM_place iM_trouble rM_letters iM_failed iM_hasCourt rM_r rM_fresh rM_told rM_read rM_st rM_undone rM_kept iM_undos iM_images rM_fresher iM_fresherSize iM_scale iM_night rM_heardRow rM_cutRow x_3303 x_3304 iM_allBreaths rM_trial rM_words iM_fewestBreaths iM_orderMany iM_orderSum iM_leastOrder rM_often iM_setMany iM_someOf iM_allOf iM_allWeight iM_enoughWeight iM_worthSum iM_firstRest iM_leastDrawn), (arI rM_r kM_r 287 fM_r), (arI rM_told kM_told 90 fM_told), (arI rM_st kM_st 90 fM_st), (arI rM_heardRow kM_heardRow 400 f_3305), (arI rM_cutRow kM_cutRow 800 f_3306)]) hP hD rfl
                    refine lv_iload hx hb dX7_led_74 (lv_at hl 0 rfl) ?_
                    exact wq_i hx hb hr 0 ⟨trivial, trivial⟩ (fun t ht hW => ⟨0, x_3303, x_3304, f_3305, f_3306, (by decide), b_x_3303, b_x_3304, Bw.to hP hD hK ht hW⟩) hS dX7_led_76 hlocks
                · skip
                  have gc_3319 := ti_ne c_3319 rfl kc_0
                  refine lv_goto (tgt := 80) hx hb dX7_led_61 (by decide) ?_
                  obtain ⟨x_3323, ex_3323⟩ : ∃ z : Int32, z = z_3308 + Int32.ofInt 1 := ⟨_, rfl⟩
                  have vx_3323 : x_3323.toInt = z_3308.toInt + 1 := ti_add (y := 1) ex_3323 rfl kc_1 (om_4e4fce7e hi0_n_3310.1) (om_83bd38f8 s_nodes.2 cx_3312 gc_3313)
                  refine lv_iinc (v := x_3323) (lv' := [(4, .int x_3323), (3, .int x_3307), (2, .int z_3309), (0, .ref oM), (1, .int p0)]) hx hb dX7_led_80 hl (k := 0) rfl ex_3323.symm (by decide) rfl (fun ls hl => ?_)
                  refine lv_goto (tgt := 21) hx hb dX7_led_83 (by decide) ?_
                  exact ih_n_3310 x_3323 z_3309 _ _ _  ⟨(om_83b90de5 hi0_n_3310.1 vx_3323), (om_3052bbb6 s_nodes.2 cx_3312 gc_3313 vx_3323)⟩ (ms_lt hm_n_3310 (om_b9393183 vx_3323) (om_5f9db36c s_nodes.2 cx_3312 gc_3313)) hP hD hS (lv_sub hl [0, 1, 2, 3, 4] rfl)
      exact key_n_3310 (((2147483647 - (0 : Int32).toInt).toNat) + 1) 0 0 _ _ _  ⟨(om_b1de7dbe kc_0), (om_daf17c64 kc_0)⟩ (Nat.lt_add_one _) hP hD hS hl
