set_option maxHeartbeats 4000000 in
set_option maxRecDepth 100000 in
theorem tX7_firstOf (l : Launch) (dC : Nat → ClassId) (dI : Nat → Nat → Nat) (sz : Nat) (oM : Nat) (iM_thrown : Int32) (rM_tape : Nat) (iM_taped : Int32) (iM_size : Int32) (iM_at : Int32) (iM_end : Int32) (iM_token : Int32) (iM_whole : Int32) (iM_nameSize : Int32) (iM_fault : Int32) (iM_place : Int32) (iM_trouble : Int32) (rM_letters : Nat) (iM_failed : Int32) (iM_hasCourt : Int32) (rM_r : Nat) (fM_r : Nat → Int32) (kM_r : ClassId) (rM_fresh : Nat) (rM_told : Nat) (fM_told : Nat → Int32) (kM_told : ClassId) (rM_read : Nat) (rM_st : Nat) (fM_st : Nat → Int32) (kM_st : ClassId) (rM_undone : Nat) (rM_kept : Nat) (iM_undos : Int32) (iM_images : Int32) (rM_fresher : Nat) (iM_fresherSize : Int32) (iM_scale : Int32) (iM_night : Int32) (rM_heardRow : Nat) (fM_heardRow : Nat → Int32) (kM_heardRow : ClassId) (rM_cutRow : Nat) (fM_cutRow : Nat → Int32) (kM_cutRow : ClassId) (iM_breaths : Int32) (iM_cutMany : Int32) (iM_allBreaths : Int32) (rM_trial : Nat) (fM_trial : Nat → Int32) (kM_trial : ClassId) (rM_words : Nat) (iM_fewestBreaths : Int32) (iM_orderMany : Int32) (iM_orderSum : Int32) (iM_leastOrder : Int32) (rM_often : Nat) (iM_setMany : Int32) (iM_someOf : Int32) (iM_allOf : Int32) (iM_allWeight : Int64) (iM_enoughWeight : Int64) (iM_worthSum : Int64) (iM_firstRest : Int32) (iM_leastDrawn : Int32) (p0 : Int32) (b_iM_taped : 0 ≤ iM_taped.toInt ∧ iM_taped.toInt ≤ 900) (b_iM_size : 0 ≤ iM_size.toInt ∧ iM_size.toInt ≤ 900) (b_iM_end : 0 ≤ iM_end.toInt ∧ iM_end.toInt ≤ 900) (b_iM_failed : 0 ≤ iM_failed.toInt ∧ iM_failed.toInt ≤ 1) (b_iM_hasCourt : 0 ≤ iM_hasCourt.toInt ∧ iM_hasCourt.toInt ≤ 1) (b_iM_undos : 0 ≤ iM_undos.toInt ∧ iM_undos.toInt ≤ 16) (b_iM_images : 0 ≤ iM_images.toInt ∧ iM_images.toInt ≤ 3) (b_iM_scale : 1 ≤ iM_scale.toInt ∧ iM_scale.toInt ≤ 1296) (b_iM_breaths : 0 ≤ iM_breaths.toInt ∧ iM_breaths.toInt ≤ 399) (b_iM_cutMany : 0 ≤ iM_cutMany.toInt ∧ iM_cutMany.toInt ≤ 399) (r_R : ROk fM_r) (r_C : iM_hasCourt.toInt ≤ 0 ∨ (1 ≤ (fM_r 1).toInt ∧ 0 ≤ (fM_r 6).toInt ∧ (fM_r 6).toInt < (fM_r 1).toInt)) (r_st : RowOk fM_r fM_st) (r_told : RowOk fM_r fM_told) (r_wst : WorOk fM_st) (hk0 : 0 ≤ p0.toInt ∧ p0.toInt < (fM_r 1).toInt) (hth : 0 ≤ (fM_r 6).toInt ∧ (fM_r 6).toInt < (fM_r 1).toInt) : Met l yX7_firstOf (Cond.code yX7_firstOf cX7_firstOf 5 (some .int) :: wG) ({ frames := 22, cells := 0, slots := 0, locals := 624 }) (va_Pc [.ref oM, .int p0] (Pw dC dI sz [(oc7 oM iM_thrown rM_tape iM_taped iM_size iM_at iM_end iM_token iM_whole iM_nameSize iM_fault iM_place iM_trouble rM_letters iM_failed iM_hasCourt rM_r rM_fresh rM_told rM_read rM_st rM_undone rM_kept iM_undos iM_images rM_fresher iM_fresherSize iM_scale iM_night rM_heardRow rM_cutRow iM_breaths iM_cutMany iM_allBreaths rM_trial rM_words iM_fewestBreaths iM_orderMany iM_orderSum iM_leastOrder rM_often iM_setMany iM_someOf iM_allOf iM_allWeight iM_enoughWeight iM_worthSum iM_firstRest iM_leastDrawn), (arI rM_r kM_r 287 fM_r), (arI rM_told kM_told 90 fM_told), (arI rM_st kM_st 90 fM_st), (arI rM_heardRow kM_heardRow 400 fM_heardRow), (arI rM_cutRow kM_cutRow 800 fM_cutRow), (arI rM_trial kM_trial 90 fM_trial)] [(kM_r, .int), (kM_told, .int), (kM_st, .int), (kM_heardRow, .int), (kM_cutRow, .int), (kM_trial, .int)])) (va_Qi (fun (r : Int32) (_ : Nat) => True ∧ True) (fun (_ : Nat) (t : State) => ∃ (niM_breaths : Int32) (niM_cutMany : Int32) (niM_fewestBreaths : Int32) (nfM_heardRow : Nat → Int32) (nfM_cutRow : Nat → Int32) (nfM_trial : Nat → Int32), (0 ≤ niM_breaths.toInt ∧ niM_breaths.toInt ≤ 399) ∧ (0 ≤ niM_cutMany.toInt ∧ niM_cutMany.toInt ≤ 399) ∧ Bw dC dI (va_A [(oc7 oM iM_thrown rM_tape iM_taped iM_size iM_at iM_end iM_token iM_whole iM_nameSize iM_fault iM_place iM_trouble rM_letters iM_failed iM_hasCourt rM_r rM_fresh rM_told rM_read rM_st rM_undone rM_kept iM_undos iM_images rM_fresher iM_fresherSize iM_scale iM_night rM_heardRow rM_cutRow iM_breaths iM_cutMany iM_allBreaths rM_trial rM_words iM_fewestBreaths iM_orderMany iM_orderSum iM_leastOrder rM_often iM_setMany iM_someOf iM_allOf iM_allWeight iM_enoughWeight iM_worthSum iM_firstRest iM_leastDrawn), (arI rM_r kM_r 287 fM_r), (arI rM_told kM_told 90 fM_told), (arI rM_st kM_st 90 fM_st), (arI rM_heardRow kM_heardRow 400 fM_heardRow), (arI rM_cutRow kM_cutRow 800 fM_cutRow), (arI rM_trial kM_trial 90 fM_trial)] sz) [(oc7 oM iM_thrown rM_tape iM_taped iM_size iM_at iM_end iM_token iM_whole iM_nameSize iM_fault iM_place iM_trouble rM_letters iM_failed iM_hasCourt rM_r rM_fresh rM_told rM_read rM_st rM_undone rM_kept iM_undos iM_images rM_fresher iM_fresherSize iM_scale iM_night rM_heardRow rM_cutRow niM_breaths niM_cutMany iM_allBreaths rM_trial rM_words niM_fewestBreaths iM_orderMany iM_orderSum iM_leastOrder rM_often iM_setMany iM_someOf iM_allOf iM_allWeight iM_enoughWeight iM_worthSum iM_firstRest iM_leastDrawn), (arI rM_r kM_r 287 fM_r), (arI rM_told kM_told 90 fM_told), (arI rM_st kM_st 90 fM_st), (arI rM_heardRow kM_heardRow 400 nfM_heardRow), (arI rM_cutRow kM_cutRow 800 nfM_cutRow), (arI rM_trial kM_trial 90 nfM_trial)] [(kM_r, .int), (kM_told, .int), (kM_st, .int), (kM_heardRow, .int), (kM_cutRow, .int), (kM_trial, .int)] t) (va_A [(oc7 oM iM_thrown rM_tape iM_taped iM_size iM_at iM_end iM_token iM_whole iM_nameSize iM_fault iM_place iM_trouble rM_letters iM_failed iM_hasCourt rM_r rM_fresh rM_told rM_read rM_st rM_undone rM_kept iM_undos iM_images rM_fresher iM_fresherSize iM_scale iM_night rM_heardRow rM_cutRow iM_breaths iM_cutMany iM_allBreaths rM_trial rM_words iM_fewestBreaths iM_orderMany iM_orderSum iM_leastOrder rM_often iM_setMany iM_someOf iM_allOf iM_allWeight iM_enoughWeight iM_worthSum iM_firstRest iM_leastDrawn), (arI rM_r kM_r 287 fM_r), (arI rM_told kM_told 90 fM_told), (arI rM_st kM_st 90 fM_st), (arI rM_heardRow kM_heardRow 400 fM_heardRow), (arI rM_cutRow kM_cutRow 800 fM_cutRow), (arI rM_trial kM_trial 90 fM_trial)] sz)) 0 0 (va_A [(oc7 oM iM_thrown rM_tape iM_taped iM_size iM_at iM_end iM_token iM_whole iM_nameSize iM_fault iM_place iM_trouble rM_letters iM_failed iM_hasCourt rM_r rM_fresh rM_told rM_read rM_st rM_undone rM_kept iM_undos iM_images rM_fresher iM_fresherSize iM_scale iM_night rM_heardRow rM_cutRow iM_breaths iM_cutMany iM_allBreaths rM_trial rM_words iM_fewestBreaths iM_orderMany iM_orderSum iM_leastOrder rM_often iM_setMany iM_someOf iM_allOf iM_allWeight iM_enoughWeight iM_worthSum iM_firstRest iM_leastDrawn), (arI rM_r kM_r 287 fM_r), (arI rM_told kM_told 90 fM_told), (arI rM_st kM_st 90 fM_st), (arI rM_heardRow kM_heardRow 400 fM_heardRow), (arI rM_cutRow kM_cutRow 800 fM_cutRow), (arI rM_trial kM_trial 90 fM_trial)] sz) := by
  refine Met.ofW (cc := cX7_firstOf) (maxL := 5) (ret := (some .int)) pnX7 rfl ?_
  intro p e s m args below meth c s₁ B hml hv
  obtain ⟨rfl, hsz, hP, hK, hD0, hE⟩ := hv
  have hx := B.exec
  have hb := B.bytes
  have hr := B.returns
  have hts : ∀ w ∈ wG, w.before ([.ref oM, .int p0] : List Value).toArray s = true := fun w h => atoms_spec (ws := Cond.code yX7_firstOf cX7_firstOf 5 (some .int) :: wG) B.pre w (List.mem_cons_of_mem _ h)
  have hown : s.vm.findClass RX7 = some m.cls := own_of B.named rfl
  have hlocks := B.notSynchronized
  subst hsz
  have hD := hD0.self (sz := s.heap.size)
  generalize hAe : va_A [(oc7 oM iM_thrown rM_tape iM_taped iM_size iM_at iM_end iM_token iM_whole iM_nameSize iM_fault iM_place iM_trouble rM_letters iM_failed iM_hasCourt rM_r rM_fresh rM_told rM_read rM_st rM_undone rM_kept iM_undos iM_images rM_fresher iM_fresherSize iM_scale iM_night rM_heardRow rM_cutRow iM_breaths iM_cutMany iM_allBreaths rM_trial rM_words iM_fewestBreaths iM_orderMany iM_orderSum iM_leastOrder rM_often iM_setMany iM_someOf iM_allOf iM_allWeight iM_enoughWeight iM_worthSum iM_firstRest iM_leastDrawn), (arI rM_r kM_r 287 fM_r), (arI rM_told kM_told 90 fM_told), (arI rM_st kM_st 90 fM_st), (arI rM_heardRow kM_heardRow 400 fM_heardRow), (arI rM_cutRow kM_cutRow 800 fM_cutRow), (arI rM_trial kM_trial 90 fM_trial)] s.heap.size = A at hD hE ⊢
  have hA : ∀ q : Nat, s.heap.size ≤ q → A q := fun q h => by rw [← hAe]; exact Or.inr h
  have hS : va_S A s.heap s.heap [] := va_S.rf
  have hl := lv_entry ([.ref oM, .int p0]) (n := 5) (Nat.le_of_ble_eq_true rfl)
  rw [lg_entry_eq]
  generalize (lg_sl ([.ref oM, .int p0]) ++ List.replicate (5 - (lg_sl ([.ref oM, .int p0])).length) Slot.unset).toArray = ls at hl ⊢
  have hl : lv_has ls 5 [(0, .ref oM), (1, .int p0)] := hl
  have s_slips := r_R.slips
  have s_nodes := r_R.nodes
  have s_uns := r_R.uns
  have q_p0 := ti_cl (x := p0) rfl hk0.1
  have mn_p0 := r_R.many (27 + p0.toNatClampNeg) (Nat.le_add_right _ _) (om_6c263690 (ti_cl (x := p0) rfl hk0.1) hk0.2 s_nodes.2)
  have kn_p0 := r_R.kind (9 + p0.toNatClampNeg) (Nat.le_add_right _ _) (om_57ce868b (ti_cl (x := p0) rfl hk0.1) hk0.2 s_nodes.2)
  have in_p0 := r_R.inner p0.toNatClampNeg (om_05d4ad0a (ti_cl (x := p0) rfl hk0.1) hk0.2)
  refine lv_bipush (v := (-2)) hx hb dX7_firstOf_0 (by decide) ?_
  refine lv_istore_n (lv' := [(2, .int (-2)), (0, .ref oM), (1, .int p0)]) hx hb dX7_firstOf_2 rfl hl (by decide) rfl (fun ls hl => ?_)
  refine lv_aload_n hx hb dX7_firstOf_3 rfl (lv_at hl 1 rfl) ?_
  refine lv_bipush (v := (-2)) hx hb dX7_firstOf_4 (by decide) ?_
  refine va_put (D := (dC, dI)) (ci := 7) (v := .int (-2)) (ty := .int) (C := RX7) (T := TX7) (N := 48) hx hb hts inX7 tyX7 tyX7_ok nmX7 hown hK hP hD hS 0 rfl rfl 35 (by decide) (hts _ wd_1031) (fun _ h9 => h9) rfl (by decide +kernel) rfl rfl (Nat.le_of_ble_eq_true rfl) dX7_firstOf_6 (fun H locs hP hD hS => ?_)
  obtain ⟨hP, hD⟩ := wl2 (ws' := [(oc7 oM iM_thrown rM_tape iM_taped iM_size iM_at iM_end iM_token iM_whole iM_nameSize iM_fault iM_place iM_trouble rM_letters iM_failed iM_hasCourt rM_r rM_fresh rM_told rM_read rM_st rM_undone rM_kept iM_undos iM_images rM_fresher iM_fresherSize iM_scale iM_night rM_heardRow rM_cutRow iM_breaths iM_cutMany iM_allBreaths rM_trial rM_words (-2) iM_orderMany iM_orderSum iM_leastOrder rM_often iM_setMany iM_someOf iM_allOf iM_allWeight iM_enoughWeight iM_worthSum iM_firstRest iM_leastDrawn), (arI rM_r kM_r 287 fM_r), (arI rM_told kM_told 90 fM_told), (arI rM_st kM_st 90 fM_st), (arI rM_heardRow kM_heardRow 400 fM_heardRow), (arI rM_cutRow kM_cutRow 800 fM_cutRow), (arI rM_trial kM_trial 90 fM_trial)]) hP hD rfl
  refine lv_iconst (v := 0) hx hb dX7_firstOf_9 (by decide) ?_
  refine lv_istore_n (lv' := [(3, .int 0), (2, .int (-2)), (0, .ref oM), (1, .int p0)]) hx hb dX7_firstOf_10 rfl hl (by decide) rfl (fun ls hl => ?_)
  have hl := lv_sub hl (l' := [(3, .int 0), (2, .int (-2)), (0, .ref oM), (1, .int p0)]) [0, 1, 2, 3] rfl
  have key_n_2064 : ∀ (n_2064 : Nat) (z_2056 : Int32) (z_2057 : Int32) (z_2058 : Int32) (z_2059 : Int32) (z_2060 : Int32) (f_2061 : Nat → Int32) (f_2062 : Nat → Int32) (f_2063 : Nat → Int32) (H : Heap) (locs : List Loc) (ls : Array Slot), (0 ≤ z_2058.toInt ∧ z_2058.toInt ≤ 399) → (0 ≤ z_2059.toInt ∧ z_2059.toInt ≤ 399) → (0 ≤ z_2056.toInt ∧ z_2056.toInt ≤ 4) → (4 - z_2056.toInt).toNat < n_2064 → va_P (dC, dI) vwCl [(oc7 oM iM_thrown rM_tape iM_taped iM_size iM_at iM_end iM_token iM_whole iM_nameSize iM_fault iM_place iM_trouble rM_letters iM_failed iM_hasCourt rM_r rM_fresh rM_told rM_read rM_st rM_undone rM_kept iM_undos iM_images rM_fresher iM_fresherSize iM_scale iM_night rM_heardRow rM_cutRow z_2058 z_2059 iM_allBreaths rM_trial rM_words z_2060 iM_orderMany iM_orderSum iM_leastOrder rM_often iM_setMany iM_someOf iM_allOf iM_allWeight iM_enoughWeight iM_worthSum iM_firstRest iM_leastDrawn), (arI rM_r kM_r 287 fM_r), (arI rM_told kM_told 90 fM_told), (arI rM_st kM_st 90 fM_st), (arI rM_heardRow kM_heardRow 400 f_2061), (arI rM_cutRow kM_cutRow 800 f_2062), (arI rM_trial kM_trial 90 f_2063)] H → va_D A [(oc7 oM iM_thrown rM_tape iM_taped iM_size iM_at iM_end iM_token iM_whole iM_nameSize iM_fault iM_place iM_trouble rM_letters iM_failed iM_hasCourt rM_r rM_fresh rM_told rM_read rM_st rM_undone rM_kept iM_undos iM_images rM_fresher iM_fresherSize iM_scale iM_night rM_heardRow rM_cutRow z_2058 z_2059 iM_allBreaths rM_trial rM_words z_2060 iM_orderMany iM_orderSum iM_leastOrder rM_often iM_setMany iM_someOf iM_allOf iM_allWeight iM_enoughWeight iM_worthSum iM_firstRest iM_leastDrawn), (arI rM_r kM_r 287 fM_r), (arI rM_told kM_told 90 fM_told), (arI rM_st kM_st 90 fM_st), (arI rM_heardRow kM_heardRow 400 f_2061), (arI rM_cutRow kM_cutRow 800 f_2062), (arI rM_trial kM_trial 90 f_2063)] → va_S A s.heap H locs → lv_has ls 5 [(3, .int z_2056), (2, .int z_2057), (0, .ref oM), (1, .int p0)] → W p l e (headSpec (Cond.code yX7_firstOf cX7_firstOf 5 (some .int) :: wG) ({ frames := 22, cells := 0, slots := 0, locals := 624 })).room s m ([.ref oM, .int p0] : List Value).toArray below meth c H locs 0 0 (MQ below (va_Qi (fun (r : Int32) (_ : Nat) => True ∧ True) (fun (_ : Nat) (t : State) => ∃ (niM_breaths : Int32) (niM_cutMany : Int32) (niM_fewestBreaths : Int32) (nfM_heardRow : Nat → Int32) (nfM_cutRow : Nat → Int32) (nfM_trial : Nat → Int32), (0 ≤ niM_breaths.toInt ∧ niM_breaths.toInt ≤ 399) ∧ (0 ≤ niM_cutMany.toInt ∧ niM_cutMany.toInt ≤ 399) ∧ Bw dC dI A [(oc7 oM iM_thrown rM_tape iM_taped iM_size iM_at iM_end iM_token iM_whole iM_nameSize iM_fault iM_place iM_trouble rM_letters iM_failed iM_hasCourt rM_r rM_fresh rM_told rM_read rM_st rM_undone rM_kept iM_undos iM_images rM_fresher iM_fresherSize iM_scale iM_night rM_heardRow rM_cutRow niM_breaths niM_cutMany iM_allBreaths rM_trial rM_words niM_fewestBreaths iM_orderMany iM_orderSum iM_leastOrder rM_often iM_setMany iM_someOf iM_allOf iM_allWeight iM_enoughWeight iM_worthSum iM_firstRest iM_leastDrawn), (arI rM_r kM_r 287 fM_r), (arI rM_told kM_told 90 fM_told), (arI rM_st kM_st 90 fM_st), (arI rM_heardRow kM_heardRow 400 nfM_heardRow), (arI rM_cutRow kM_cutRow 800 nfM_cutRow), (arI rM_trial kM_trial 90 nfM_trial)] [(kM_r, .int), (kM_told, .int), (kM_st, .int), (kM_heardRow, .int), (kM_cutRow, .int), (kM_trial, .int)] t) A) ([.ref oM, .int p0] : List Value).toArray s 0 0 A) (F0 m 11 ls []) := by
    intro n_2064
    induction n_2064 with
    | zero => intro z_2056 z_2057 z_2058 z_2059 z_2060 f_2061 f_2062 f_2063 H locs ls b_z_2058 b_z_2059 hi0_n_2064 hm; exact absurd hm (Nat.not_lt_zero _)
    | succ n_2064 ih_n_2064 =>
      intro z_2056 z_2057 z_2058 z_2059 z_2060 f_2061 f_2062 f_2063 H locs ls b_z_2058 b_z_2059 hi0_n_2064 hm_n_2064 hP hD hS hl
      refine lv_iload_n hx hb dX7_firstOf_11 rfl (lv_at hl 0 rfl) ?_
      refine lv_aload_n hx hb dX7_firstOf_12 rfl (lv_at hl 2 rfl) ?_
      refine va_get (D := (dC, dI)) (ci := 7) (v := .ref rM_r) (C := RX7) (T := TX7) (N := 48) hx hb hts inX7 hown hK hP 0 rfl rfl 15 (by decide) (hts _ wd_155) (fun _ h9 => h9) rfl dX7_firstOf_13 ?_
      refine lv_bipush (v := 27) hx hb dX7_firstOf_16 (by decide) ?_
      refine lv_iload_n hx hb dX7_firstOf_18 rfl (lv_at hl 3 rfl) ?_
      refine lv_iadd hx hb dX7_firstOf_19 ?_
      refine lv_topi (fun x_2065 ex_2065 => ?_)
      have vx_2065 : x_2065.toInt = p0.toInt + 27 := om_6c48219a (ti_add ex_2065 kc_27 rfl (om_edd3f7cf hk0.1) (om_cf6669ce hk0.2 s_nodes.2))
      refine va_iald hx hb hK hP 1 0 rfl rfl (ti_in vx_2065 (om_b4b48b7f hk0.1) (om_420abfc6 hk0.2 s_nodes.2)) dX7_firstOf_20 ?_
      refine lv_topi (fun x_2066 ex_2066 => ?_)
      have kx_2066 : (fM_r x_2065.toNatClampNeg).toInt = x_2066.toInt := by rw [ex_2066]
      have cx_2066 : (fM_r (27 + p0.toNatClampNeg)).toInt = x_2066.toInt := by rw [show 27 + p0.toNatClampNeg = x_2065.toNatClampNeg from (om_779a3124 (ti_cl (x := p0) rfl hk0.1) (ti_cl (x := x_2065) vx_2065 (om_b4b48b7f hk0.1)))]; exact kx_2066
      have sx_2066 := r_R.many x_2065.toNatClampNeg (om_ab5399c3 (ti_cl (x := x_2065) vx_2065 (om_b4b48b7f hk0.1)) hk0.1) (om_3b68d876 (ti_cl (x := x_2065) vx_2065 (om_b4b48b7f hk0.1)) hk0.2 s_nodes.2)
      refine lv_icmp_ge (tgt := 98) hx hb dX7_firstOf_21 (by decide) (fun c_2067 => ?_) (fun c_2067 => ?_)
      · skip
        have gc_2067 := ti_le c_2067 rfl rfl
        refine lv_iload_n hx hb dX7_firstOf_98 rfl (lv_at hl 1 rfl) ?_
        exact wq_i hx hb hr 0 ⟨trivial, trivial⟩ (fun t ht hW => ⟨z_2058, z_2059, z_2060, f_2061, f_2062, f_2063, b_z_2058, b_z_2059, Bw.to hP hD hK ht hW⟩) hS dX7_firstOf_99 hlocks
      · skip
        have gc_2067 := ti_nle c_2067 rfl rfl
        refine lv_aload_n hx hb dX7_firstOf_24 rfl (lv_at hl 2 rfl) ?_
        refine va_get (D := (dC, dI)) (ci := 7) (v := .ref rM_st) (C := RX7) (T := TX7) (N := 48) hx hb hts inX7 hown hK hP 0 rfl rfl 19 (by decide) (hts _ wd_159) (fun _ h9 => h9) rfl dX7_firstOf_25 ?_
        refine lv_iconst (v := 0) hx hb dX7_firstOf_28 (by decide) ?_
        refine lv_aload_n hx hb dX7_firstOf_29 rfl (lv_at hl 2 rfl) ?_
        refine va_get (D := (dC, dI)) (ci := 7) (v := .ref rM_trial) (C := RX7) (T := TX7) (N := 48) hx hb hts inX7 hown hK hP 0 rfl rfl 33 (by decide) (hts _ wd_167) (fun _ h9 => h9) rfl dX7_firstOf_30 ?_
        refine lv_iconst (v := 0) hx hb dX7_firstOf_33 (by decide) ?_
        refine lv_bipush (v := 90) hx hb dX7_firstOf_34 (by decide) ?_
        have hMs := ml_of hD [false, false, false, true, false, false, true] (wc := [(arI rM_st kM_st 90 fM_st), (arI rM_trial kM_trial 90 f_2063)]) rfl
        have hFc := va_freeM hD hS hA _ hMs
        refine va_callv (va_runS (As := [.ref rM_st, .int 0, .ref rM_trial, .int 0, .int 90]) (rest := []) ⟨hx, hb, hml, hown, hts⟩ (tX7_copy_90_90 l dC dI _ rM_st fM_st kM_st rM_trial f_2063 kM_trial 0 0 90 ⟨(om_b1de7dbe kc_0), (om_b1de7dbe kc_0), (om_34f60646 kc_90)⟩ (om_3b9d1022 kc_0 kc_90) (om_3b9d1022 kc_0 kc_90)) (va_cwS 5 hts (wd_S wd_475 wd_476 wd_5 (wd_c wd_477)) rfl rfl rfl ds_yX7_copy_5 ⟨Nat.le_of_ble_eq_true rfl, Nat.le_of_ble_eq_true rfl⟩) ⟨Pw.fb, fun U hU hW => Pw.to (hP.ms _ hMs) (hD.ms _ hMs) (hK.ms [false, false, true, false, false, true] rfl) hE hS hFc hU hW⟩ rfl rfl hl.1 rfl (lv_room (Nat.le_of_ble_eq_true rfl)) dX7_firstOf_36 ⟨Nat.le_of_ble_eq_true rfl, Nat.le_of_ble_eq_true rfl⟩) hS (fun q _ h => hFc q h) hFc (fun u t H locs ht hvm hw hB hz1 hk1 hS => ?_)
        refine ex_1_1 hB (fun f_2068 e_f_2068_0 hB => ?_)
        obtain ⟨hP, hD⟩ := Bw.goN (ws' := [(oc7 oM iM_thrown rM_tape iM_taped iM_size iM_at iM_end iM_token iM_whole iM_nameSize iM_fault iM_place iM_trouble rM_letters iM_failed iM_hasCourt rM_r rM_fresh rM_told rM_read rM_st rM_undone rM_kept iM_undos iM_images rM_fresher iM_fresherSize iM_scale iM_night rM_heardRow rM_cutRow z_2058 z_2059 iM_allBreaths rM_trial rM_words z_2060 iM_orderMany iM_orderSum iM_leastOrder rM_often iM_setMany iM_someOf iM_allOf iM_allWeight iM_enoughWeight iM_worthSum iM_firstRest iM_leastDrawn), (arI rM_r kM_r 287 fM_r), (arI rM_told kM_told 90 fM_told), (arI rM_st kM_st 90 fM_st), (arI rM_heardRow kM_heardRow 400 f_2061), (arI rM_cutRow kM_cutRow 800 f_2062), (arI rM_trial kM_trial 90 f_2068)]) hB rfl ht hP hD _ hMs hk1 hFc rfl
        clear hz1 hk1 hvm ht hB hMs
        have r_f_2068 : RowOk fM_r f_2068 := RowOk.copy r_R r_st e_f_2068_0
        refine lv_aload_n hx hb dX7_firstOf_39 rfl (lv_at hl 2 rfl) ?_
        refine lv_aload_n hx hb dX7_firstOf_40 rfl (lv_at hl 2 rfl) ?_
        refine va_get (D := (dC, dI)) (ci := 7) (v := .ref rM_trial) (C := RX7) (T := TX7) (N := 48) hx hb hts inX7 hown hK hP 0 rfl rfl 33 (by decide) (hts _ wd_167) (fun _ h9 => h9) rfl dX7_firstOf_41 ?_
        refine lv_iload_n hx hb dX7_firstOf_44 rfl (lv_at hl 3 rfl) ?_
        refine lv_iload_n hx hb dX7_firstOf_45 rfl (lv_at hl 0 rfl) ?_
        have hMs := ml_of hD [true, true, false, false, false, false, true] (wc := [(oc7 oM iM_thrown rM_tape iM_taped iM_size iM_at iM_end iM_token iM_whole iM_nameSize iM_fault iM_place iM_trouble rM_letters iM_failed iM_hasCourt rM_r rM_fresh rM_told rM_read rM_st rM_undone rM_kept iM_undos iM_images rM_fresher iM_fresherSize iM_scale iM_night rM_heardRow rM_cutRow z_2058 z_2059 iM_allBreaths rM_trial rM_words z_2060 iM_orderMany iM_orderSum iM_leastOrder rM_often iM_setMany iM_someOf iM_allOf iM_allWeight iM_enoughWeight iM_worthSum iM_firstRest iM_leastDrawn), (arI rM_r kM_r 287 fM_r), (arI rM_trial kM_trial 90 f_2068)]) rfl
        have hFc := va_freeM hD hS hA _ hMs
        refine va_callv (va_runV (As := [.ref rM_trial, .int p0, .int z_2056]) (rest := []) ⟨hx, hb, hml, hown, hts⟩ (tX7_frontOf l dC dI _ oM iM_thrown rM_tape iM_taped iM_size iM_at iM_end iM_token iM_whole iM_nameSize iM_fault iM_place iM_trouble rM_letters iM_failed iM_hasCourt rM_r fM_r kM_r rM_fresh rM_told rM_read rM_st rM_undone rM_kept iM_undos iM_images rM_fresher iM_fresherSize iM_scale iM_night rM_heardRow rM_cutRow z_2058 z_2059 iM_allBreaths rM_trial rM_words z_2060 iM_orderMany iM_orderSum iM_leastOrder rM_often iM_setMany iM_someOf iM_allOf iM_allWeight iM_enoughWeight iM_worthSum iM_firstRest iM_leastDrawn rM_trial f_2068 kM_trial p0 z_2056 b_iM_taped b_iM_size b_iM_end b_iM_failed b_iM_hasCourt b_iM_undos b_iM_images b_iM_scale b_z_2058 b_z_2059 (by assumption) (by assumption) (by assumption) ⟨hk0.1, hk0.2⟩ ⟨hi0_n_2064.1, (om_644b432c cx_2066 gc_2067)⟩) (cwV 3 hts (wd_V wd_1032 wd_1033 wd_1034 wd_5 (wd_c wd_1035)) rfl rfl rfl dv_yX7_frontOf_3 ⟨Nat.le_of_ble_eq_true rfl, Nat.le_of_ble_eq_true rfl⟩) ⟨Pw.fb, recvX7 hK hP (q0 := 0) rfl, fun U hU hW => Pw.to (hP.ms _ hMs) (hD.ms _ hMs) (hK.ms [true, false, false, false, false, true] rfl) hE hS hFc hU hW⟩ rfl rfl hl.1 rfl (lv_room (Nat.le_of_ble_eq_true rfl)) dX7_firstOf_46 ⟨Nat.le_of_ble_eq_true rfl, Nat.le_of_ble_eq_true rfl⟩) hS (fun q _ h => hFc q h) hFc (fun u t H locs ht hvm hw hB hz1 hk1 hS => ?_)
        refine ex_1_3 hB (fun f_2069 e_f_2069_0 e_f_2069_1 e_f_2069_2 hB => ?_)
        obtain ⟨hP, hD⟩ := Bw.goN (ws' := [(oc7 oM iM_thrown rM_tape iM_taped iM_size iM_at iM_end iM_token iM_whole iM_nameSize iM_fault iM_place iM_trouble rM_letters iM_failed iM_hasCourt rM_r rM_fresh rM_told rM_read rM_st rM_undone rM_kept iM_undos iM_images rM_fresher iM_fresherSize iM_scale iM_night rM_heardRow rM_cutRow z_2058 z_2059 iM_allBreaths rM_trial rM_words z_2060 iM_orderMany iM_orderSum iM_leastOrder rM_often iM_setMany iM_someOf iM_allOf iM_allWeight iM_enoughWeight iM_worthSum iM_firstRest iM_leastDrawn), (arI rM_r kM_r 287 fM_r), (arI rM_told kM_told 90 fM_told), (arI rM_st kM_st 90 fM_st), (arI rM_heardRow kM_heardRow 400 f_2061), (arI rM_cutRow kM_cutRow 800 f_2062), (arI rM_trial kM_trial 90 f_2069)]) hB rfl ht hP hD _ hMs hk1 hFc rfl
        clear hz1 hk1 hvm ht hB hMs
        refine lv_aload_n hx hb dX7_firstOf_49 rfl (lv_at hl 2 rfl) ?_
        refine lv_aload_n hx hb dX7_firstOf_50 rfl (lv_at hl 2 rfl) ?_
        refine va_get (D := (dC, dI)) (ci := 7) (v := .ref rM_trial) (C := RX7) (T := TX7) (N := 48) hx hb hts inX7 hown hK hP 0 rfl rfl 33 (by decide) (hts _ wd_167) (fun _ h9 => h9) rfl dX7_firstOf_51 ?_
        have hMs := ml_of hD [true, true, true, false, true, true, true] (wc := [(oc7 oM iM_thrown rM_tape iM_taped iM_size iM_at iM_end iM_token iM_whole iM_nameSize iM_fault iM_place iM_trouble rM_letters iM_failed iM_hasCourt rM_r rM_fresh rM_told rM_read rM_st rM_undone rM_kept iM_undos iM_images rM_fresher iM_fresherSize iM_scale iM_night rM_heardRow rM_cutRow z_2058 z_2059 iM_allBreaths rM_trial rM_words z_2060 iM_orderMany iM_orderSum iM_leastOrder rM_often iM_setMany iM_someOf iM_allOf iM_allWeight iM_enoughWeight iM_worthSum iM_firstRest iM_leastDrawn), (arI rM_r kM_r 287 fM_r), (arI rM_told kM_told 90 fM_told), (arI rM_heardRow kM_heardRow 400 f_2061), (arI rM_cutRow kM_cutRow 800 f_2062), (arI rM_trial kM_trial 90 f_2069)]) rfl
        have hFc := va_freeM hD hS hA _ hMs
        refine va_calli (va_runV (As := [.ref rM_trial]) (rest := []) ⟨hx, hb, hml, hown, hts⟩ (tX7_breathsBy l dC dI _ oM iM_thrown rM_tape iM_taped iM_size iM_at iM_end iM_token iM_whole iM_nameSize iM_fault iM_place iM_trouble rM_letters iM_failed iM_hasCourt rM_r fM_r kM_r rM_fresh rM_told fM_told kM_told rM_read rM_st rM_undone rM_kept iM_undos iM_images rM_fresher iM_fresherSize iM_scale iM_night rM_heardRow f_2061 kM_heardRow rM_cutRow f_2062 kM_cutRow z_2058 z_2059 iM_allBreaths rM_trial rM_words z_2060 iM_orderMany iM_orderSum iM_leastOrder rM_often iM_setMany iM_someOf iM_allOf iM_allWeight iM_enoughWeight iM_worthSum iM_firstRest iM_leastDrawn rM_trial f_2069 kM_trial b_iM_taped b_iM_size b_iM_end b_iM_failed b_iM_hasCourt b_iM_undos b_iM_images b_iM_scale b_z_2058 b_z_2059 (by assumption) (by assumption) (by assumption) (by assumption) ⟨hth.1, hth.2⟩) (cwV 1 hts (wd_V wd_769 wd_770 wd_771 wd_5 (wd_c wd_772)) rfl rfl rfl dv_yX7_breathsBy_1 ⟨Nat.le_of_ble_eq_true rfl, Nat.le_of_ble_eq_true rfl⟩) ⟨Pw.fb, recvX7 hK hP (q0 := 0) rfl, fun U hU hW => Pw.to (hP.ms _ hMs) (hD.ms _ hMs) (hK.ms [true, true, false, true, true, true] rfl) hE hS hFc hU hW⟩ rfl rfl hl.1 rfl (lv_room (Nat.le_of_ble_eq_true rfl)) dX7_firstOf_54 ⟨Nat.le_of_ble_eq_true rfl, Nat.le_of_ble_eq_true rfl⟩) hS (fun q _ h => hFc q h) hFc (fun r u t H locs ht hvm hw hB hz1 hk1 hS => ?_)
        have hru9 := hw.2
        have hw := hw.1
        refine ex_4_3 hB (fun x_2070 x_2071 f_2072 f_2073 b_x_2070 b_x_2071 e_x_2070_0 hB => ?_)
        obtain ⟨hP, hD⟩ := Bw.goN (ws' := [(oc7 oM iM_thrown rM_tape iM_taped iM_size iM_at iM_end iM_token iM_whole iM_nameSize iM_fault iM_place iM_trouble rM_letters iM_failed iM_hasCourt rM_r rM_fresh rM_told rM_read rM_st rM_undone rM_kept iM_undos iM_images rM_fresher iM_fresherSize iM_scale iM_night rM_heardRow rM_cutRow x_2070 x_2071 iM_allBreaths rM_trial rM_words z_2060 iM_orderMany iM_orderSum iM_leastOrder rM_often iM_setMany iM_someOf iM_allOf iM_allWeight iM_enoughWeight iM_worthSum iM_firstRest iM_leastDrawn), (arI rM_r kM_r 287 fM_r), (arI rM_told kM_told 90 fM_told), (arI rM_st kM_st 90 fM_st), (arI rM_heardRow kM_heardRow 400 f_2072), (arI rM_cutRow kM_cutRow 800 f_2073), (arI rM_trial kM_trial 90 f_2069)]) hB rfl ht hP hD _ hMs hk1 hFc rfl
        clear hz1 hk1 hvm ht hB hMs
        obtain ⟨x_2074, rfl⟩ : ∃ z, z = r := ⟨_, rfl⟩
        have ux_2074 := hw.2
        refine lv_istore (lv' := [(4, .int x_2074), (3, .int z_2056), (2, .int z_2057), (0, .ref oM), (1, .int p0)]) hx hb dX7_firstOf_57 hl (by decide) rfl (fun ls hl => ?_)
        refine lv_iload_n hx hb dX7_firstOf_59 rfl (lv_at hl 2 rfl) ?_
        refine lv_if_lt (tgt := 75) hx hb dX7_firstOf_60 (by decide) (fun c_2075 => ?_) (fun c_2075 => ?_)
        · skip
          have gc_2075 := ti_lt c_2075 rfl kc_0
          refine lv_aload_n hx hb dX7_firstOf_75 rfl (lv_at hl 3 rfl) ?_
          refine va_get (D := (dC, dI)) (ci := 7) (v := .ref rM_st) (C := RX7) (T := TX7) (N := 48) hx hb hts inX7 hown hK hP 0 rfl rfl 19 (by decide) (hts _ wd_159) (fun _ h9 => h9) rfl dX7_firstOf_76 ?_
          refine lv_iconst (v := 4) hx hb dX7_firstOf_79 (by decide) ?_
          refine lv_iload_n hx hb dX7_firstOf_80 rfl (lv_at hl 4 rfl) ?_
          refine lv_imul hx hb dX7_firstOf_81 ?_
          refine lv_topi (fun x_2076 ex_2076 => ?_)
          have vx_2076 : x_2076.toInt = 4 * p0.toInt := ti_mul ex_2076 kc_4 rfl (om_56b74365 hk0.1) (om_eac0354e hk0.2 s_nodes.2)
          refine lv_iload_n hx hb dX7_firstOf_82 rfl (lv_at hl 1 rfl) ?_
          refine lv_iadd hx hb dX7_firstOf_83 ?_
          refine lv_topi (fun x_2077 ex_2077 => ?_)
          have vx_2077 : x_2077.toInt = 4 * p0.toInt + z_2056.toInt := om_5d0caf0f (ti_add ex_2077 vx_2076 rfl (om_056a216f hk0.1 hi0_n_2064.1) (om_cddd17b5 hk0.2 s_nodes.2 hi0_n_2064.2))
          refine va_iald hx hb hK hP 3 2 rfl rfl (ti_in vx_2077 (om_fc2812d4 hk0.1 hi0_n_2064.1) (om_50b52c69 hk0.2 s_nodes.2 hi0_n_2064.2)) dX7_firstOf_84 ?_
          refine lv_topi (fun x_2078 ex_2078 => ?_)
          have kx_2078 : (fM_st x_2077.toNatClampNeg).toInt = x_2078.toInt := by rw [ex_2078]
          have cx_2078 : (fM_st (4 * p0.toNatClampNeg + z_2056.toNatClampNeg)).toInt = x_2078.toInt := by rw [show 4 * p0.toNatClampNeg + z_2056.toNatClampNeg = x_2077.toNatClampNeg from (om_4de36627 (ti_cl (x := p0) rfl hk0.1) (ti_cl (x := z_2056) rfl hi0_n_2064.1) (ti_cl (x := x_2077) vx_2077 (om_fc2812d4 hk0.1 hi0_n_2064.1)))]; exact kx_2078
          have wx_2078 : 0 ≤ x_2078.toInt ∧ x_2078.toInt < p0.toInt := row_lt r_st (i := z_2056.toNatClampNeg) (ti_cl (x := p0) rfl hk0.1) (ti_cl (x := z_2056) rfl hi0_n_2064.1) hk0.2 (om_644b432c cx_2066 gc_2067) (om_24300f0a (ti_cl (x := p0) rfl hk0.1) (ti_cl (x := z_2056) rfl hi0_n_2064.1)) cx_2078
          refine lv_istore_n (lv' := [(2, .int x_2078), (4, .int x_2074), (3, .int z_2056), (0, .ref oM), (1, .int p0)]) hx hb dX7_firstOf_85 rfl hl (by decide) rfl (fun ls hl => ?_)
          refine lv_aload_n hx hb dX7_firstOf_86 rfl (lv_at hl 3 rfl) ?_
          refine lv_iload hx hb dX7_firstOf_87 (lv_at hl 1 rfl) ?_
          refine va_put (D := (dC, dI)) (ci := 7) (v := .int x_2074) (ty := .int) (C := RX7) (T := TX7) (N := 48) hx hb hts inX7 tyX7 tyX7_ok nmX7 hown hK hP hD hS 0 rfl rfl 35 (by decide) (hts _ wd_1031) (fun _ h9 => h9) rfl (by decide +kernel) rfl rfl (Nat.le_of_ble_eq_true rfl) dX7_firstOf_89 (fun H locs hP hD hS => ?_)
          obtain ⟨hP, hD⟩ := wl2 (ws' := [(oc7 oM iM_thrown rM_tape iM_taped iM_size iM_at iM_end iM_token iM_whole iM_nameSize iM_fault iM_place iM_trouble rM_letters iM_failed iM_hasCourt rM_r rM_fresh rM_told rM_read rM_st rM_undone rM_kept iM_undos iM_images rM_fresher iM_fresherSize iM_scale iM_night rM_heardRow rM_cutRow x_2070 x_2071 iM_allBreaths rM_trial rM_words x_2074 iM_orderMany iM_orderSum iM_leastOrder rM_often iM_setMany iM_someOf iM_allOf iM_allWeight iM_enoughWeight iM_worthSum iM_firstRest iM_leastDrawn), (arI rM_r kM_r 287 fM_r), (arI rM_told kM_told 90 fM_told), (arI rM_st kM_st 90 fM_st), (arI rM_heardRow kM_heardRow 400 f_2072), (arI rM_cutRow kM_cutRow 800 f_2073), (arI rM_trial kM_trial 90 f_2069)]) hP hD rfl
          obtain ⟨x_2079, ex_2079⟩ : ∃ z : Int32, z = z_2056 + Int32.ofInt 1 := ⟨_, rfl⟩
          have vx_2079 : x_2079.toInt = z_2056.toInt + 1 := ti_add (y := 1) ex_2079 rfl kc_1 (om_4e4fce7e hi0_n_2064.1) (om_bae2951a hi0_n_2064.2)
          refine lv_iinc (v := x_2079) (lv' := [(3, .int x_2079), (2, .int x_2078), (4, .int x_2074), (0, .ref oM), (1, .int p0)]) hx hb dX7_firstOf_92 hl (k := 2) rfl ex_2079.symm (by decide) rfl (fun ls hl => ?_)
          refine lv_goto (tgt := 11) hx hb dX7_firstOf_95 (by decide) ?_
          exact ih_n_2064 x_2079 x_2078 x_2070 x_2071 x_2074 f_2072 f_2073 f_2069 _ _ _ b_x_2070 b_x_2071 ⟨(om_83b90de5 hi0_n_2064.1 vx_2079), (om_8267bec5 mn_p0.2 cx_2066 gc_2067 vx_2079)⟩ (ms_lt hm_n_2064 (om_ed22490e vx_2079) (om_e4be4046 mn_p0.2 cx_2066 gc_2067)) hP hD hS (lv_sub hl [0, 1, 3, 4] rfl)
        · skip
          have gc_2075 := ti_nlt c_2075 rfl kc_0
          refine lv_iload hx hb dX7_firstOf_63 (lv_at hl 0 rfl) ?_
          refine lv_aload_n hx hb dX7_firstOf_65 rfl (lv_at hl 3 rfl) ?_
          refine va_get (D := (dC, dI)) (ci := 7) (v := .int z_2060) (C := RX7) (T := TX7) (N := 48) hx hb hts inX7 hown hK hP 0 rfl rfl 35 (by decide) (hts _ wd_1031) (fun _ h9 => h9) rfl dX7_firstOf_66 ?_
          refine lv_icmp_lt (tgt := 75) hx hb dX7_firstOf_69 (by decide) (fun c_2080 => ?_) (fun c_2080 => ?_)
          · skip
            have gc_2080 := ti_lt c_2080 rfl rfl
            refine lv_aload_n hx hb dX7_firstOf_75 rfl (lv_at hl 3 rfl) ?_
            refine va_get (D := (dC, dI)) (ci := 7) (v := .ref rM_st) (C := RX7) (T := TX7) (N := 48) hx hb hts inX7 hown hK hP 0 rfl rfl 19 (by decide) (hts _ wd_159) (fun _ h9 => h9) rfl dX7_firstOf_76 ?_
            refine lv_iconst (v := 4) hx hb dX7_firstOf_79 (by decide) ?_
            refine lv_iload_n hx hb dX7_firstOf_80 rfl (lv_at hl 4 rfl) ?_
            refine lv_imul hx hb dX7_firstOf_81 ?_
            refine lv_topi (fun x_2081 ex_2081 => ?_)
            have vx_2081 : x_2081.toInt = 4 * p0.toInt := ti_mul ex_2081 kc_4 rfl (om_56b74365 hk0.1) (om_eac0354e hk0.2 s_nodes.2)
            refine lv_iload_n hx hb dX7_firstOf_82 rfl (lv_at hl 1 rfl) ?_
            refine lv_iadd hx hb dX7_firstOf_83 ?_
            refine lv_topi (fun x_2082 ex_2082 => ?_)
            have vx_2082 : x_2082.toInt = 4 * p0.toInt + z_2056.toInt := om_5d0caf0f (ti_add ex_2082 vx_2081 rfl (om_056a216f hk0.1 hi0_n_2064.1) (om_cddd17b5 hk0.2 s_nodes.2 hi0_n_2064.2))
            refine va_iald hx hb hK hP 3 2 rfl rfl (ti_in vx_2082 (om_fc2812d4 hk0.1 hi0_n_2064.1) (om_50b52c69 hk0.2 s_nodes.2 hi0_n_2064.2)) dX7_firstOf_84 ?_
            refine lv_topi (fun x_2083 ex_2083 => ?_)
            have kx_2083 : (fM_st x_2082.toNatClampNeg).toInt = x_2083.toInt := by rw [ex_2083]
            have cx_2083 : (fM_st (4 * p0.toNatClampNeg + z_2056.toNatClampNeg)).toInt = x_2083.toInt := by rw [show 4 * p0.toNatClampNeg + z_2056.toNatClampNeg = x_2082.toNatClampNeg from (om_4de36627 (ti_cl (x := p0) rfl hk0.1) (ti_cl (x := z_2056) rfl hi0_n_2064.1) (ti_cl (x := x_2082) vx_2082 (om_fc2812d4 hk0.1 hi0_n_2064.1)))]; exact kx_2083
            have wx_2083 : 0 ≤ x_2083.toInt ∧ x_2083.toInt < p0.toInt := row_lt r_st (i := z_2056.toNatClampNeg) (ti_cl (x := p0) rfl hk0.1) (ti_cl (x := z_2056) rfl hi0_n_2064.1) hk0.2 (om_644b432c cx_2066 gc_2067) (om_24300f0a (ti_cl (x := p0) rfl hk0.1) (ti_cl (x := z_2056) rfl hi0_n_2064.1)) cx_2083
            refine lv_istore_n (lv' := [(2, .int x_2083), (4, .int x_2074), (3, .int z_2056), (0, .ref oM), (1, .int p0)]) hx hb dX7_firstOf_85 rfl hl (by decide) rfl (fun ls hl => ?_)
            refine lv_aload_n hx hb dX7_firstOf_86 rfl (lv_at hl 3 rfl) ?_
            refine lv_iload hx hb dX7_firstOf_87 (lv_at hl 1 rfl) ?_
            refine va_put (D := (dC, dI)) (ci := 7) (v := .int x_2074) (ty := .int) (C := RX7) (T := TX7) (N := 48) hx hb hts inX7 tyX7 tyX7_ok nmX7 hown hK hP hD hS 0 rfl rfl 35 (by decide) (hts _ wd_1031) (fun _ h9 => h9) rfl (by decide +kernel) rfl rfl (Nat.le_of_ble_eq_true rfl) dX7_firstOf_89 (fun H locs hP hD hS => ?_)
            obtain ⟨hP, hD⟩ := wl2 (ws' := [(oc7 oM iM_thrown rM_tape iM_taped iM_size iM_at iM_end iM_token iM_whole iM_nameSize iM_fault iM_place iM_trouble rM_letters iM_failed iM_hasCourt rM_r rM_fresh rM_told rM_read rM_st rM_undone rM_kept iM_undos iM_images rM_fresher iM_fresherSize iM_scale iM_night rM_heardRow rM_cutRow x_2070 x_2071 iM_allBreaths rM_trial rM_words x_2074 iM_orderMany iM_orderSum iM_leastOrder rM_often iM_setMany iM_someOf iM_allOf iM_allWeight iM_enoughWeight iM_worthSum iM_firstRest iM_leastDrawn), (arI rM_r kM_r 287 fM_r), (arI rM_told kM_told 90 fM_told), (arI rM_st kM_st 90 fM_st), (arI rM_heardRow kM_heardRow 400 f_2072), (arI rM_cutRow kM_cutRow 800 f_2073), (arI rM_trial kM_trial 90 f_2069)]) hP hD rfl
            obtain ⟨x_2084, ex_2084⟩ : ∃ z : Int32, z = z_2056 + Int32.ofInt 1 := ⟨_, rfl⟩
            have vx_2084 : x_2084.toInt = z_2056.toInt + 1 := ti_add (y := 1) ex_2084 rfl kc_1 (om_4e4fce7e hi0_n_2064.1) (om_bae2951a hi0_n_2064.2)
            refine lv_iinc (v := x_2084) (lv' := [(3, .int x_2084), (2, .int x_2083), (4, .int x_2074), (0, .ref oM), (1, .int p0)]) hx hb dX7_firstOf_92 hl (k := 2) rfl ex_2084.symm (by decide) rfl (fun ls hl => ?_)
            refine lv_goto (tgt := 11) hx hb dX7_firstOf_95 (by decide) ?_
            exact ih_n_2064 x_2084 x_2083 x_2070 x_2071 x_2074 f_2072 f_2073 f_2069 _ _ _ b_x_2070 b_x_2071 ⟨(om_83b90de5 hi0_n_2064.1 vx_2084), (om_8267bec5 mn_p0.2 cx_2066 gc_2067 vx_2084)⟩ (ms_lt hm_n_2064 (om_ed22490e vx_2084) (om_e4be4046 mn_p0.2 cx_2066 gc_2067)) hP hD hS (lv_sub hl [0, 1, 3, 4] rfl)
          · skip
            have gc_2080 := ti_nlt c_2080 rfl rfl
            refine lv_goto (tgt := 92) hx hb dX7_firstOf_72 (by decide) ?_
            obtain ⟨x_2085, ex_2085⟩ : ∃ z : Int32, z = z_2056 + Int32.ofInt 1 := ⟨_, rfl⟩
            have vx_2085 : x_2085.toInt = z_2056.toInt + 1 := ti_add (y := 1) ex_2085 rfl kc_1 (om_4e4fce7e hi0_n_2064.1) (om_bae2951a hi0_n_2064.2)
            refine lv_iinc (v := x_2085) (lv' := [(3, .int x_2085), (4, .int x_2074), (2, .int z_2057), (0, .ref oM), (1, .int p0)]) hx hb dX7_firstOf_92 hl (k := 1) rfl ex_2085.symm (by decide) rfl (fun ls hl => ?_)
            refine lv_goto (tgt := 11) hx hb dX7_firstOf_95 (by decide) ?_
            exact ih_n_2064 x_2085 z_2057 x_2070 x_2071 z_2060 f_2072 f_2073 f_2069 _ _ _ b_x_2070 b_x_2071 ⟨(om_83b90de5 hi0_n_2064.1 vx_2085), (om_8267bec5 mn_p0.2 cx_2066 gc_2067 vx_2085)⟩ (ms_lt hm_n_2064 (om_ed22490e vx_2085) (om_e4be4046 mn_p0.2 cx_2066 gc_2067)) hP hD hS (lv_sub hl [0, 2, 3, 4] rfl)
  exact key_n_2064 (((4 - (0 : Int32).toInt).toNat) + 1) 0 (-2) iM_breaths iM_cutMany (-2) fM_heardRow fM_cutRow fM_trial _ _ _ ⟨b_iM_breaths.1, b_iM_breaths.2⟩ ⟨b_iM_cutMany.1, b_iM_cutMany.2⟩ ⟨(om_b1de7dbe kc_0), (om_bebe011a kc_0)⟩ (Nat.lt_add_one _) hP hD hS hl
set_option maxHeartbeats 4000000 in
set_option maxRecDepth 100000 in
theorem tX7_first (l : Launch) (dC : Nat → ClassId) (dI : Nat → Nat → Nat) (sz : Nat) (oM : Nat) (iM_thrown : Int32) (rM_tape : Nat) (iM_taped : Int32) (iM_size : Int32) (iM_at : Int32) (iM_end : Int32) (iM_token : Int32) (iM_whole : Int32) (iM_nameSize : Int32) (iM_fault : Int32) (iM_place : Int32) (iM_trouble : Int32) (rM_letters : Nat) (iM_failed : Int32) (iM_hasCourt : Int32) (rM_r : Nat) (fM_r : Nat → Int32) (kM_r : ClassId) (rM_fresh : Nat) (rM_told : Nat) (fM_told : Nat → Int32) (kM_told : ClassId) (rM_read : Nat) (rM_st : Nat) (fM_st : Nat → Int32) (kM_st : ClassId) (rM_undone : Nat) (rM_kept : Nat) (iM_undos : Int32) (iM_images : Int32) (rM_fresher : Nat) (iM_fresherSize : Int32) (iM_scale : Int32) (iM_night : Int32) (rM_heardRow : Nat) (fM_heardRow : Nat → Int32) (kM_heardRow : ClassId) (rM_cutRow : Nat) (fM_cutRow : Nat → Int32) (kM_cutRow : ClassId) (iM_breaths : Int32) (iM_cutMany : Int32) (iM_allBreaths : Int32) (rM_trial : Nat) (fM_trial : Nat → Int32) (kM_trial : ClassId) (rM_words : Nat) (iM_fewestBreaths : Int32) (iM_orderMany : Int32) (iM_orderSum : Int32) (iM_leastOrder : Int32) (rM_often : Nat) (iM_setMany : Int32) (iM_someOf : Int32) (iM_allOf : Int32) (iM_allWeight : Int64) (iM_enoughWeight : Int64) (iM_worthSum : Int64) (iM_firstRest : Int32) (iM_leastDrawn : Int32) (p0 : Int32) (b_iM_taped : 0 ≤ iM_taped.toInt ∧ iM_taped.toInt ≤ 900) (b_iM_size : 0 ≤ iM_size.toInt ∧ iM_size.toInt ≤ 900) (b_iM_end : 0 ≤ iM_end.toInt ∧ iM_end.toInt ≤ 900) (b_iM_failed : 0 ≤ iM_failed.toInt ∧ iM_failed.toInt ≤ 1) (b_iM_hasCourt : 0 ≤ iM_hasCourt.toInt ∧ iM_hasCourt.toInt ≤ 1) (b_iM_undos : 0 ≤ iM_undos.toInt ∧ iM_undos.toInt ≤ 16) (b_iM_images : 0 ≤ iM_images.toInt ∧ iM_images.toInt ≤ 3) (b_iM_scale : 1 ≤ iM_scale.toInt ∧ iM_scale.toInt ≤ 1296) (b_iM_breaths : 0 ≤ iM_breaths.toInt ∧ iM_breaths.toInt ≤ 399) (b_iM_cutMany : 0 ≤ iM_cutMany.toInt ∧ iM_cutMany.toInt ≤ 399) (r_R : ROk fM_r) (r_C : iM_hasCourt.toInt ≤ 0 ∨ (1 ≤ (fM_r 1).toInt ∧ 0 ≤ (fM_r 6).toInt ∧ (fM_r 6).toInt < (fM_r 1).toInt)) (r_st : RowOk fM_r fM_st) (r_told : RowOk fM_r fM_told) (r_wst : WorOk fM_st)  : Met l yX7_first (Cond.code yX7_first cX7_first 2 (some .int) :: wG) ({ frames := 23, cells := 0, slots := 0, locals := 648 }) (va_Pc [.ref oM, .int p0] (Pw dC dI sz [(oc7 oM iM_thrown rM_tape iM_taped iM_size iM_at iM_end iM_token iM_whole iM_nameSize iM_fault iM_place iM_trouble rM_letters iM_failed iM_hasCourt rM_r rM_fresh rM_told rM_read rM_st rM_undone rM_kept iM_undos iM_images rM_fresher iM_fresherSize iM_scale iM_night rM_heardRow rM_cutRow iM_breaths iM_cutMany iM_allBreaths rM_trial rM_words iM_fewestBreaths iM_orderMany iM_orderSum iM_leastOrder rM_often iM_setMany iM_someOf iM_allOf iM_allWeight iM_enoughWeight iM_worthSum iM_firstRest iM_leastDrawn), (arI rM_r kM_r 287 fM_r), (arI rM_told kM_told 90 fM_told), (arI rM_st kM_st 90 fM_st), (arI rM_heardRow kM_heardRow 400 fM_heardRow), (arI rM_cutRow kM_cutRow 800 fM_cutRow), (arI rM_trial kM_trial 90 fM_trial)] [(kM_r, .int), (kM_told, .int), (kM_st, .int), (kM_heardRow, .int), (kM_cutRow, .int), (kM_trial, .int)])) (va_Qi (fun (r : Int32) (_ : Nat) => True ∧ True) (fun (_ : Nat) (t : State) => ∃ (niM_thrown : Int32) (niM_trouble : Int32) (niM_breaths : Int32) (niM_cutMany : Int32) (niM_fewestBreaths : Int32) (nfM_heardRow : Nat → Int32) (nfM_cutRow : Nat → Int32) (nfM_trial : Nat → Int32), (0 ≤ niM_breaths.toInt ∧ niM_breaths.toInt ≤ 399) ∧ (0 ≤ niM_cutMany.toInt ∧ niM_cutMany.toInt ≤ 399) ∧ Bw dC dI (va_A [(oc7 oM iM_thrown rM_tape iM_taped iM_size iM_at iM_end iM_token iM_whole iM_nameSize iM_fault iM_place iM_trouble rM_letters iM_failed iM_hasCourt rM_r rM_fresh rM_told rM_read rM_st rM_undone rM_kept iM_undos iM_images rM_fresher iM_fresherSize iM_scale iM_night rM_heardRow rM_cutRow iM_breaths iM_cutMany iM_allBreaths rM_trial rM_words iM_fewestBreaths iM_orderMany iM_orderSum iM_leastOrder rM_often iM_setMany iM_someOf iM_allOf iM_allWeight iM_enoughWeight iM_worthSum iM_firstRest iM_leastDrawn), (arI rM_r kM_r 287 fM_r), (arI rM_told kM_told 90 fM_told), (arI rM_st kM_st 90 fM_st), (arI rM_heardRow kM_heardRow 400 fM_heardRow), (arI rM_cutRow kM_cutRow 800 fM_cutRow), (arI rM_trial kM_trial 90 fM_trial)] sz) [(oc7 oM niM_thrown rM_tape iM_taped iM_size iM_at iM_end iM_token iM_whole iM_nameSize iM_fault iM_place niM_trouble rM_letters iM_failed iM_hasCourt rM_r rM_fresh rM_told rM_read rM_st rM_undone rM_kept iM_undos iM_images rM_fresher iM_fresherSize iM_scale iM_night rM_heardRow rM_cutRow niM_breaths niM_cutMany iM_allBreaths rM_trial rM_words niM_fewestBreaths iM_orderMany iM_orderSum iM_leastOrder rM_often iM_setMany iM_someOf iM_allOf iM_allWeight iM_enoughWeight iM_worthSum iM_firstRest iM_leastDrawn), (arI rM_r kM_r 287 fM_r), (arI rM_told kM_told 90 fM_told), (arI rM_st kM_st 90 fM_st), (arI rM_heardRow kM_heardRow 400 nfM_heardRow), (arI rM_cutRow kM_cutRow 800 nfM_cutRow), (arI rM_trial kM_trial 90 nfM_trial)] [(kM_r, .int), (kM_told, .int), (kM_st, .int), (kM_heardRow, .int), (kM_cutRow, .int), (kM_trial, .int)] t) (va_A [(oc7 oM iM_thrown rM_tape iM_taped iM_size iM_at iM_end iM_token iM_whole iM_nameSize iM_fault iM_place iM_trouble rM_letters iM_failed iM_hasCourt rM_r rM_fresh rM_told rM_read rM_st rM_undone rM_kept iM_undos iM_images rM_fresher iM_fresherSize iM_scale iM_night rM_heardRow rM_cutRow iM_breaths iM_cutMany iM_allBreaths rM_trial rM_words iM_fewestBreaths iM_orderMany iM_orderSum iM_leastOrder rM_often iM_setMany iM_someOf iM_allOf iM_allWeight iM_enoughWeight iM_worthSum iM_firstRest iM_leastDrawn), (arI rM_r kM_r 287 fM_r), (arI rM_told kM_told 90 fM_told), (arI rM_st kM_st 90 fM_st), (arI rM_heardRow kM_heardRow 400 fM_heardRow), (arI rM_cutRow kM_cutRow 800 fM_cutRow), (arI rM_trial kM_trial 90 fM_trial)] sz)) 0 0 (va_A [(oc7 oM iM_thrown rM_tape iM_taped iM_size iM_at iM_end iM_token iM_whole iM_nameSize iM_fault iM_place iM_trouble rM_letters iM_failed iM_hasCourt rM_r rM_fresh rM_told rM_read rM_st rM_undone rM_kept iM_undos iM_images rM_fresher iM_fresherSize iM_scale iM_night rM_heardRow rM_cutRow iM_breaths iM_cutMany iM_allBreaths rM_trial rM_words iM_fewestBreaths iM_orderMany iM_orderSum iM_leastOrder rM_often iM_setMany iM_someOf iM_allOf iM_allWeight iM_enoughWeight iM_worthSum iM_firstRest iM_leastDrawn), (arI rM_r kM_r 287 fM_r), (arI rM_told kM_told 90 fM_told), (arI rM_st kM_st 90 fM_st), (arI rM_heardRow kM_heardRow 400 fM_heardRow), (arI rM_cutRow kM_cutRow 800 fM_cutRow), (arI rM_trial kM_trial 90 fM_trial)] sz) := by
  refine Met.ofW (cc := cX7_first) (maxL := 2) (ret := (some .int)) pnX7 rfl ?_
  intro p e s m args below meth c s₁ B hml hv
  obtain ⟨rfl, hsz, hP, hK, hD0, hE⟩ := hv
  have hx := B.exec
  have hb := B.bytes
  have hr := B.returns
  have hts : ∀ w ∈ wG, w.before ([.ref oM, .int p0] : List Value).toArray s = true := fun w h => atoms_spec (ws := Cond.code yX7_first cX7_first 2 (some .int) :: wG) B.pre w (List.mem_cons_of_mem _ h)
  have hown : s.vm.findClass RX7 = some m.cls := own_of B.named rfl
  have hlocks := B.notSynchronized
  subst hsz
  have hD := hD0.self (sz := s.heap.size)
  generalize hAe : va_A [(oc7 oM iM_thrown rM_tape iM_taped iM_size iM_at iM_end iM_token iM_whole iM_nameSize iM_fault iM_place iM_trouble rM_letters iM_failed iM_hasCourt rM_r rM_fresh rM_told rM_read rM_st rM_undone rM_kept iM_undos iM_images rM_fresher iM_fresherSize iM_scale iM_night rM_heardRow rM_cutRow iM_breaths iM_cutMany iM_allBreaths rM_trial rM_words iM_fewestBreaths iM_orderMany iM_orderSum iM_leastOrder rM_often iM_setMany iM_someOf iM_allOf iM_allWeight iM_enoughWeight iM_worthSum iM_firstRest iM_leastDrawn), (arI rM_r kM_r 287 fM_r), (arI rM_told kM_told 90 fM_told), (arI rM_st kM_st 90 fM_st), (arI rM_heardRow kM_heardRow 400 fM_heardRow), (arI rM_cutRow kM_cutRow 800 fM_cutRow), (arI rM_trial kM_trial 90 fM_trial)] s.heap.size = A at hD hE ⊢
  have hA : ∀ q : Nat, s.heap.size ≤ q → A q := fun q h => by rw [← hAe]; exact Or.inr h
  have hS : va_S A s.heap s.heap [] := va_S.rf
  have hl := lv_entry ([.ref oM, .int p0]) (n := 2) (Nat.le_of_ble_eq_true rfl)
  rw [lg_entry_eq]
  generalize (lg_sl ([.ref oM, .int p0]) ++ List.replicate (2 - (lg_sl ([.ref oM, .int p0])).length) Slot.unset).toArray = ls at hl ⊢
  have hl : lv_has ls 2 [(0, .ref oM), (1, .int p0)] := hl
  have s_slips := r_R.slips
  have s_nodes := r_R.nodes
  have s_uns := r_R.uns
  refine lv_aload_n hx hb dX7_first_0 rfl (lv_at hl 0 rfl) ?_
  have hMs := ml_of hD [true, false, false, false, false, false, false] (wc := [(oc7 oM iM_thrown rM_tape iM_taped iM_size iM_at iM_end iM_token iM_whole iM_nameSize iM_fault iM_place iM_trouble rM_letters iM_failed iM_hasCourt rM_r rM_fresh rM_told rM_read rM_st rM_undone rM_kept iM_undos iM_images rM_fresher iM_fresherSize iM_scale iM_night rM_heardRow rM_cutRow iM_breaths iM_cutMany iM_allBreaths rM_trial rM_words iM_fewestBreaths iM_orderMany iM_orderSum iM_leastOrder rM_often iM_setMany iM_someOf iM_allOf iM_allWeight iM_enoughWeight iM_worthSum iM_firstRest iM_leastDrawn)]) rfl
  have hFc := va_freeM hD hS hA _ hMs
  refine va_callv (va_runV (As := []) (rest := []) ⟨hx, hb, hml, hown, hts⟩ (tX7_good l dC dI _ oM iM_thrown rM_tape iM_taped iM_size iM_at iM_end iM_token iM_whole iM_nameSize iM_fault iM_place iM_trouble rM_letters iM_failed iM_hasCourt rM_r rM_fresh rM_told rM_read rM_st rM_undone rM_kept iM_undos iM_images rM_fresher iM_fresherSize iM_scale iM_night rM_heardRow rM_cutRow iM_breaths iM_cutMany iM_allBreaths rM_trial rM_words iM_fewestBreaths iM_orderMany iM_orderSum iM_leastOrder rM_often iM_setMany iM_someOf iM_allOf iM_allWeight iM_enoughWeight iM_worthSum iM_firstRest iM_leastDrawn b_iM_taped b_iM_size b_iM_end b_iM_failed b_iM_hasCourt b_iM_undos b_iM_images b_iM_scale b_iM_breaths b_iM_cutMany) (cwV 0 hts (wd_V wd_388 wd_389 wd_390 wd_5 (wd_c wd_391)) rfl rfl rfl dv_yX7_good_0 ⟨Nat.le_of_ble_eq_true rfl, Nat.le_of_ble_eq_true rfl⟩) ⟨Pw.fb, recvX7 hK hP (q0 := 0) rfl, fun U hU hW => Pw.to (hP.ms _ hMs) (hD.ms _ hMs) (hK.ms [false, false, false, false, false, false] rfl) hE hS hFc hU hW⟩ rfl rfl hl.1 rfl (lv_room (Nat.le_of_ble_eq_true rfl)) dX7_first_1 ⟨Nat.le_of_ble_eq_true rfl, Nat.le_of_ble_eq_true rfl⟩) hS (fun q _ h => hFc q h) hFc (fun u t H locs ht hvm hw hB hz1 hk1 hS => ?_)
  refine ex_2_3 hB (fun x_2100 x_2101 b_x_2100 b_x_2101 e_x_2100_0 hB => ?_)
  obtain ⟨hP, hD⟩ := Bw.goN (ws' := [(oc7 oM x_2100 rM_tape iM_taped iM_size iM_at iM_end iM_token iM_whole iM_nameSize iM_fault iM_place x_2101 rM_letters iM_failed iM_hasCourt rM_r rM_fresh rM_told rM_read rM_st rM_undone rM_kept iM_undos iM_images rM_fresher iM_fresherSize iM_scale iM_night rM_heardRow rM_cutRow iM_breaths iM_cutMany iM_allBreaths rM_trial rM_words iM_fewestBreaths iM_orderMany iM_orderSum iM_leastOrder rM_often iM_setMany iM_someOf iM_allOf iM_allWeight iM_enoughWeight iM_worthSum iM_firstRest iM_leastDrawn), (arI rM_r kM_r 287 fM_r), (arI rM_told kM_told 90 fM_told), (arI rM_st kM_st 90 fM_st), (arI rM_heardRow kM_heardRow 400 fM_heardRow), (arI rM_cutRow kM_cutRow 800 fM_cutRow), (arI rM_trial kM_trial 90 fM_trial)]) hB rfl ht hP hD _ hMs hk1 hFc rfl
  clear hz1 hk1 hvm ht hB hMs
  refine lv_aload_n hx hb dX7_first_4 rfl (lv_at hl 0 rfl) ?_
  refine lv_iload_n hx hb dX7_first_5 rfl (lv_at hl 1 rfl) ?_
  have hMs := ml_of hD [true, true, false, false, false, false, false] (wc := [(oc7 oM x_2100 rM_tape iM_taped iM_size iM_at iM_end iM_token iM_whole iM_nameSize iM_fault iM_place x_2101 rM_letters iM_failed iM_hasCourt rM_r rM_fresh rM_told rM_read rM_st rM_undone rM_kept iM_undos iM_images rM_fresher iM_fresherSize iM_scale iM_night rM_heardRow rM_cutRow iM_breaths iM_cutMany iM_allBreaths rM_trial rM_words iM_fewestBreaths iM_orderMany iM_orderSum iM_leastOrder rM_often iM_setMany iM_someOf iM_allOf iM_allWeight iM_enoughWeight iM_worthSum iM_firstRest iM_leastDrawn), (arI rM_r kM_r 287 fM_r)]) rfl
  have hFc := va_freeM hD hS hA _ hMs
  refine va_calli (va_runV (As := [.int p0]) (rest := []) ⟨hx, hb, hml, hown, hts⟩ (tX7_isNode l dC dI _ oM x_2100 rM_tape iM_taped iM_size iM_at iM_end iM_token iM_whole iM_nameSize iM_fault iM_place x_2101 rM_letters iM_failed iM_hasCourt rM_r fM_r kM_r rM_fresh rM_told rM_read rM_st rM_undone rM_kept iM_undos iM_images rM_fresher iM_fresherSize iM_scale iM_night rM_heardRow rM_cutRow iM_breaths iM_cutMany iM_allBreaths rM_trial rM_words iM_fewestBreaths iM_orderMany iM_orderSum iM_leastOrder rM_often iM_setMany iM_someOf iM_allOf iM_allWeight iM_enoughWeight iM_worthSum iM_firstRest iM_leastDrawn p0 b_iM_taped b_iM_size b_iM_end b_iM_failed b_iM_hasCourt b_iM_undos b_iM_images b_iM_scale b_iM_breaths b_iM_cutMany (by assumption) (by assumption)) (cwV 1 hts (wd_V wd_544 wd_545 wd_546 wd_5 (wd_c wd_547)) rfl rfl rfl dv_yX7_isNode_1 ⟨Nat.le_of_ble_eq_true rfl, Nat.le_of_ble_eq_true rfl⟩) ⟨Pw.fb, recvX7 hK hP (q0 := 0) rfl, fun U hU hW => Pw.to (hP.ms _ hMs) (hD.ms _ hMs) (hK.ms [true, false, false, false, false, false] rfl) hE hS hFc hU hW⟩ rfl rfl hl.1 rfl (lv_room (Nat.le_of_ble_eq_true rfl)) dX7_first_6 ⟨Nat.le_of_ble_eq_true rfl, Nat.le_of_ble_eq_true rfl⟩) hS (fun q _ h => hFc q h) hFc (fun r u t H locs ht hvm hw hB hz1 hk1 hS => ?_)
  have hru9 := hw.2
  have hw := hw.1
  obtain ⟨hP, hD⟩ := Bw.goN (ws' := [(oc7 oM x_2100 rM_tape iM_taped iM_size iM_at iM_end iM_token iM_whole iM_nameSize iM_fault iM_place x_2101 rM_letters iM_failed iM_hasCourt rM_r rM_fresh rM_told rM_read rM_st rM_undone rM_kept iM_undos iM_images rM_fresher iM_fresherSize iM_scale iM_night rM_heardRow rM_cutRow iM_breaths iM_cutMany iM_allBreaths rM_trial rM_words iM_fewestBreaths iM_orderMany iM_orderSum iM_leastOrder rM_often iM_setMany iM_someOf iM_allOf iM_allWeight iM_enoughWeight iM_worthSum iM_firstRest iM_leastDrawn), (arI rM_r kM_r 287 fM_r), (arI rM_told kM_told 90 fM_told), (arI rM_st kM_st 90 fM_st), (arI rM_heardRow kM_heardRow 400 fM_heardRow), (arI rM_cutRow kM_cutRow 800 fM_cutRow), (arI rM_trial kM_trial 90 fM_trial)]) hB rfl ht hP hD _ hMs hk1 hFc rfl
  clear hz1 hk1 hvm ht hB hMs
  rcases hw.2 with ⟨rfl, hc_2102⟩ | ⟨rfl, hc_2102⟩
  · skip
    refine lv_if_eq (tgt := 20) hx hb dX7_first_9 (by decide) (fun c => absurd c (by decide)) (fun _ => ?_)
    refine lv_aload_n hx hb dX7_first_12 rfl (lv_at hl 0 rfl) ?_
    refine lv_iload_n hx hb dX7_first_13 rfl (lv_at hl 1 rfl) ?_
    have hFc := va_freeI hD hS hA
    refine va_calli (va_runV (As := [.int p0]) (rest := []) ⟨hx, hb, hml, hown, hts⟩ (tX7_firstOf l dC dI _ oM x_2100 rM_tape iM_taped iM_size iM_at iM_end iM_token iM_whole iM_nameSize iM_fault iM_place x_2101 rM_letters iM_failed iM_hasCourt rM_r fM_r kM_r rM_fresh rM_told fM_told kM_told rM_read rM_st fM_st kM_st rM_undone rM_kept iM_undos iM_images rM_fresher iM_fresherSize iM_scale iM_night rM_heardRow fM_heardRow kM_heardRow rM_cutRow fM_cutRow kM_cutRow iM_breaths iM_cutMany iM_allBreaths rM_trial fM_trial kM_trial rM_words iM_fewestBreaths iM_orderMany iM_orderSum iM_leastOrder rM_often iM_setMany iM_someOf iM_allOf iM_allWeight iM_enoughWeight iM_worthSum iM_firstRest iM_leastDrawn p0 b_iM_taped b_iM_size b_iM_end b_iM_failed b_iM_hasCourt b_iM_undos b_iM_images b_iM_scale b_iM_breaths b_iM_cutMany (by assumption) (by assumption) (by assumption) (by assumption) (by assumption) ⟨hc_2102.1, hc_2102.2.1⟩ ⟨hc_2102.2.2.2.1, hc_2102.2.2.2.2⟩) (cwV 1 hts (wd_V wd_1027 wd_1028 wd_1029 wd_5 (wd_c wd_1030)) rfl rfl rfl dv_yX7_firstOf_1 ⟨Nat.le_of_ble_eq_true rfl, Nat.le_of_ble_eq_true rfl⟩) ⟨Pw.fb, recvX7 hK hP (q0 := 0) rfl, fun U hU hW => Pw.to hP hD hK hE hS hFc hU hW⟩ rfl rfl hl.1 rfl (lv_room (Nat.le_of_ble_eq_true rfl)) dX7_first_14 ⟨Nat.le_of_ble_eq_true rfl, Nat.le_of_ble_eq_true rfl⟩) hS (fun q _ h => hFc q h) hFc (fun r u t H locs ht hvm hw hB hz1 hk1 hS => ?_)
    refine ex_6_2 hB (fun x_2104 x_2105 x_2106 f_2107 f_2108 f_2109 b_x_2104 b_x_2105 hB => ?_)
    obtain ⟨hP, hD⟩ := Bw.goA (ws' := [(oc7 oM x_2100 rM_tape iM_taped iM_size iM_at iM_end iM_token iM_whole iM_nameSize iM_fault iM_place x_2101 rM_letters iM_failed iM_hasCourt rM_r rM_fresh rM_told rM_read rM_st rM_undone rM_kept iM_undos iM_images rM_fresher iM_fresherSize iM_scale iM_night rM_heardRow rM_cutRow x_2104 x_2105 iM_allBreaths rM_trial rM_words x_2106 iM_orderMany iM_orderSum iM_leastOrder rM_often iM_setMany iM_someOf iM_allOf iM_allWeight iM_enoughWeight iM_worthSum iM_firstRest iM_leastDrawn), (arI rM_r kM_r 287 fM_r), (arI rM_told kM_told 90 fM_told), (arI rM_st kM_st 90 fM_st), (arI rM_heardRow kM_heardRow 400 f_2107), (arI rM_cutRow kM_cutRow 800 f_2108), (arI rM_trial kM_trial 90 f_2109)]) hB rfl ht hFc rfl
    clear hz1 hk1 hvm ht hB
    obtain ⟨x_2110, rfl⟩ : ∃ z, z = r := ⟨_, rfl⟩
    refine lv_goto (tgt := 25) hx hb dX7_first_17 (by decide) ?_
    exact wq_i hx hb hr 0 ⟨trivial, trivial⟩ (fun t ht hW => ⟨x_2100, x_2101, x_2104, x_2105, x_2106, f_2107, f_2108, f_2109, b_x_2104, b_x_2105, Bw.to hP hD hK ht hW⟩) hS dX7_first_25 hlocks
  · skip
    refine lv_if_eq (tgt := 20) hx hb dX7_first_9 (by decide) (fun _ => ?_) (fun c => absurd c (by decide))
    refine lv_aload_n hx hb dX7_first_20 rfl (lv_at hl 0 rfl) ?_
    refine lv_iconst (v := 1) hx hb dX7_first_21 (by decide) ?_
    have hMs := ml_of hD [true, false, false, false, false, false, false] (wc := [(oc7 oM x_2100 rM_tape iM_taped iM_size iM_at iM_end iM_token iM_whole iM_nameSize iM_fault iM_place x_2101 rM_letters iM_failed iM_hasCourt rM_r rM_fresh rM_told rM_read rM_st rM_undone rM_kept iM_undos iM_images rM_fresher iM_fresherSize iM_scale iM_night rM_heardRow rM_cutRow iM_breaths iM_cutMany iM_allBreaths rM_trial rM_words iM_fewestBreaths iM_orderMany iM_orderSum iM_leastOrder rM_often iM_setMany iM_someOf iM_allOf iM_allWeight iM_enoughWeight iM_worthSum iM_firstRest iM_leastDrawn)]) rfl
    have hFc := va_freeM hD hS hA _ hMs
    refine va_calli (va_runV (As := [.int 1]) (rest := []) ⟨hx, hb, hml, hown, hts⟩ (tX7_no l dC dI _ oM x_2100 rM_tape iM_taped iM_size iM_at iM_end iM_token iM_whole iM_nameSize iM_fault iM_place x_2101 rM_letters iM_failed iM_hasCourt rM_r rM_fresh rM_told rM_read rM_st rM_undone rM_kept iM_undos iM_images rM_fresher iM_fresherSize iM_scale iM_night rM_heardRow rM_cutRow iM_breaths iM_cutMany iM_allBreaths rM_trial rM_words iM_fewestBreaths iM_orderMany iM_orderSum iM_leastOrder rM_often iM_setMany iM_someOf iM_allOf iM_allWeight iM_enoughWeight iM_worthSum iM_firstRest iM_leastDrawn 1 b_iM_taped b_iM_size b_iM_end b_iM_failed b_iM_hasCourt b_iM_undos b_iM_images b_iM_scale b_iM_breaths b_iM_cutMany) (cwV 1 hts (wd_V wd_396 wd_397 wd_398 wd_5 (wd_c wd_399)) rfl rfl rfl dv_yX7_no_1 ⟨Nat.le_of_ble_eq_true rfl, Nat.le_of_ble_eq_true rfl⟩) ⟨Pw.fb, recvX7 hK hP (q0 := 0) rfl, fun U hU hW => Pw.to (hP.ms _ hMs) (hD.ms _ hMs) (hK.ms [false, false, false, false, false, false] rfl) hE hS hFc hU hW⟩ rfl rfl hl.1 rfl (lv_room (Nat.le_of_ble_eq_true rfl)) dX7_first_22 ⟨Nat.le_of_ble_eq_true rfl, Nat.le_of_ble_eq_true rfl⟩) hS (fun q _ h => hFc q h) hFc (fun r u t H locs ht hvm hw hB hz1 hk1 hS => ?_)
    have hru9 := hw.2
    have hw := hw.1
    refine ex_1_1 hB (fun x_2112 e_x_2112_0 hB => ?_)
    obtain ⟨hP, hD⟩ := Bw.goN (ws' := [(oc7 oM x_2100 rM_tape iM_taped iM_size iM_at iM_end iM_token iM_whole iM_nameSize iM_fault iM_place x_2112 rM_letters iM_failed iM_hasCourt rM_r rM_fresh rM_told rM_read rM_st rM_undone rM_kept iM_undos iM_images rM_fresher iM_fresherSize iM_scale iM_night rM_heardRow rM_cutRow iM_breaths iM_cutMany iM_allBreaths rM_trial rM_words iM_fewestBreaths iM_orderMany iM_orderSum iM_leastOrder rM_often iM_setMany iM_someOf iM_allOf iM_allWeight iM_enoughWeight iM_worthSum iM_firstRest iM_leastDrawn), (arI rM_r kM_r 287 fM_r), (arI rM_told kM_told 90 fM_told), (arI rM_st kM_st 90 fM_st), (arI rM_heardRow kM_heardRow 400 fM_heardRow), (arI rM_cutRow kM_cutRow 800 fM_cutRow), (arI rM_trial kM_trial 90 fM_trial)]) hB rfl ht hP hD _ hMs hk1 hFc rfl
    clear hz1 hk1 hvm ht hB hMs
    obtain ⟨x_2113, rfl⟩ : ∃ z, z = r := ⟨_, rfl⟩
    exact wq_i hx hb hr 0 ⟨trivial, trivial⟩ (fun t ht hW => ⟨x_2100, x_2112, iM_breaths, iM_cutMany, iM_fewestBreaths, fM_heardRow, fM_cutRow, fM_trial, ⟨b_iM_breaths.1, b_iM_breaths.2⟩, ⟨b_iM_cutMany.1, b_iM_cutMany.2⟩, Bw.to hP hD hK ht hW⟩) hS dX7_first_25 hlocks
set_option maxHeartbeats 4000000 in
set_option maxRecDepth 100000 in
theorem tX7_firstBreaths (l : Launch) (dC : Nat → ClassId) (dI : Nat → Nat → Nat) (sz : Nat) (oM : Nat) (iM_thrown : Int32) (rM_tape : Nat) (iM_taped : Int32) (iM_size : Int32) (iM_at : Int32) (iM_end : Int32) (iM_token : Int32) (iM_whole : Int32) (iM_nameSize : Int32) (iM_fault : Int32) (iM_place : Int32) (iM_trouble : Int32) (rM_letters : Nat) (iM_failed : Int32) (iM_hasCourt : Int32) (rM_r : Nat) (fM_r : Nat → Int32) (kM_r : ClassId) (rM_fresh : Nat) (rM_told : Nat) (fM_told : Nat → Int32) (kM_told : ClassId) (rM_read : Nat) (rM_st : Nat) (fM_st : Nat → Int32) (kM_st : ClassId) (rM_undone : Nat) (rM_kept : Nat) (iM_undos : Int32) (iM_images : Int32) (rM_fresher : Nat) (iM_fresherSize : Int32) (iM_scale : Int32) (iM_night : Int32) (rM_heardRow : Nat) (fM_heardRow : Nat → Int32) (kM_heardRow : ClassId) (rM_cutRow : Nat) (fM_cutRow : Nat → Int32) (kM_cutRow : ClassId) (iM_breaths : Int32) (iM_cutMany : Int32) (iM_allBreaths : Int32) (rM_trial : Nat) (fM_trial : Nat → Int32) (kM_trial : ClassId) (rM_words : Nat) (iM_fewestBreaths : Int32) (iM_orderMany : Int32) (iM_orderSum : Int32) (iM_leastOrder : Int32) (rM_often : Nat) (iM_setMany : Int32) (iM_someOf : Int32) (iM_allOf : Int32) (iM_allWeight : Int64) (iM_enoughWeight : Int64) (iM_worthSum : Int64) (iM_firstRest : Int32) (iM_leastDrawn : Int32) (p0 : Int32) (b_iM_taped : 0 ≤ iM_taped.toInt ∧ iM_taped.toInt ≤ 900) (b_iM_size : 0 ≤ iM_size.toInt ∧ iM_size.toInt ≤ 900) (b_iM_end : 0 ≤ iM_end.toInt ∧ iM_end.toInt ≤ 900) (b_iM_failed : 0 ≤ iM_failed.toInt ∧ iM_failed.toInt ≤ 1) (b_iM_hasCourt : 0 ≤ iM_hasCourt.toInt ∧ iM_hasCourt.toInt ≤ 1) (b_iM_undos : 0 ≤ iM_undos.toInt ∧ iM_undos.toInt ≤ 16) (b_iM_images : 0 ≤ iM_images.toInt ∧ iM_images.toInt ≤ 3) (b_iM_scale : 1 ≤ iM_scale.toInt ∧ iM_scale.toInt ≤ 1296) (b_iM_breaths : 0 ≤ iM_breaths.toInt ∧ iM_breaths.toInt ≤ 399) (b_iM_cutMany : 0 ≤ iM_cutMany.toInt ∧ iM_cutMany.toInt ≤ 399) (r_R : ROk fM_r) (r_C : iM_hasCourt.toInt ≤ 0 ∨ (1 ≤ (fM_r 1).toInt ∧ 0 ≤ (fM_r 6).toInt ∧ (fM_r 6).toInt < (fM_r 1).toInt)) (r_st : RowOk fM_r fM_st) (r_told : RowOk fM_r fM_told) (r_wst : WorOk fM_st)  : Met l yX7_firstBreaths (Cond.code yX7_firstBreaths cX7_firstBreaths 2 (some .int) :: wG) ({ frames := 23, cells := 0, slots := 0, locals := 648 }) (va_Pc [.ref oM, .int p0] (Pw dC dI sz [(oc7 oM iM_thrown rM_tape iM_taped iM_size iM_at iM_end iM_token iM_whole iM_nameSize iM_fault iM_place iM_trouble rM_letters iM_failed iM_hasCourt rM_r rM_fresh rM_told rM_read rM_st rM_undone rM_kept iM_undos iM_images rM_fresher iM_fresherSize iM_scale iM_night rM_heardRow rM_cutRow iM_breaths iM_cutMany iM_allBreaths rM_trial rM_words iM_fewestBreaths iM_orderMany iM_orderSum iM_leastOrder rM_often iM_setMany iM_someOf iM_allOf iM_allWeight iM_enoughWeight iM_worthSum iM_firstRest iM_leastDrawn), (arI rM_r kM_r 287 fM_r), (arI rM_told kM_told 90 fM_told), (arI rM_st kM_st 90 fM_st), (arI rM_heardRow kM_heardRow 400 fM_heardRow), (arI rM_cutRow kM_cutRow 800 fM_cutRow), (arI rM_trial kM_trial 90 fM_trial)] [(kM_r, .int), (kM_told, .int), (kM_st, .int), (kM_heardRow, .int), (kM_cutRow, .int), (kM_trial, .int)])) (va_Qi (fun (r : Int32) (_ : Nat) => True ∧ True) (fun (_ : Nat) (t : State) => ∃ (niM_thrown : Int32) (niM_trouble : Int32) (niM_breaths : Int32) (niM_cutMany : Int32) (niM_fewestBreaths : Int32) (nfM_heardRow : Nat → Int32) (nfM_cutRow : Nat → Int32) (nfM_trial : Nat → Int32), (0 ≤ niM_breaths.toInt ∧ niM_breaths.toInt ≤ 399) ∧ (0 ≤ niM_cutMany.toInt ∧ niM_cutMany.toInt ≤ 399) ∧ Bw dC dI (va_A [(oc7 oM iM_thrown rM_tape iM_taped iM_size iM_at iM_end iM_token iM_whole iM_nameSize iM_fault iM_place iM_trouble rM_letters iM_failed iM_hasCourt rM_r rM_fresh rM_told rM_read rM_st rM_undone rM_kept iM_undos iM_images rM_fresher iM_fresherSize iM_scale iM_night rM_heardRow rM_cutRow iM_breaths iM_cutMany iM_allBreaths rM_trial rM_words iM_fewestBreaths iM_orderMany iM_orderSum iM_leastOrder rM_often iM_setMany iM_someOf iM_allOf iM_allWeight iM_enoughWeight iM_worthSum iM_firstRest iM_leastDrawn), (arI rM_r kM_r 287 fM_r), (arI rM_told kM_told 90 fM_told), (arI rM_st kM_st 90 fM_st), (arI rM_heardRow kM_heardRow 400 fM_heardRow), (arI rM_cutRow kM_cutRow 800 fM_cutRow), (arI rM_trial kM_trial 90 fM_trial)] sz) [(oc7 oM niM_thrown rM_tape iM_taped iM_size iM_at iM_end iM_token iM_whole iM_nameSize iM_fault iM_place niM_trouble rM_letters iM_failed iM_hasCourt rM_r rM_fresh rM_told rM_read rM_st rM_undone rM_kept iM_undos iM_images rM_fresher iM_fresherSize iM_scale iM_night rM_heardRow rM_cutRow niM_breaths niM_cutMany iM_allBreaths rM_trial rM_words niM_fewestBreaths iM_orderMany iM_orderSum iM_leastOrder rM_often iM_setMany iM_someOf iM_allOf iM_allWeight iM_enoughWeight iM_worthSum iM_firstRest iM_leastDrawn), (arI rM_r kM_r 287 fM_r), (arI rM_told kM_told 90 fM_told), (arI rM_st kM_st 90 fM_st), (arI rM_heardRow kM_heardRow 400 nfM_heardRow), (arI rM_cutRow kM_cutRow 800 nfM_cutRow), (arI rM_trial kM_trial 90 nfM_trial)] [(kM_r, .int), (kM_told, .int), (kM_st, .int), (kM_heardRow, .int), (kM_cutRow, .int), (kM_trial, .int)] t) (va_A [(oc7 oM iM_thrown rM_tape iM_taped iM_size iM_at iM_end iM_token iM_whole iM_nameSize iM_fault iM_place iM_trouble rM_letters iM_failed iM_hasCourt rM_r rM_fresh rM_told rM_read rM_st rM_undone rM_kept iM_undos iM_images rM_fresher iM_fresherSize iM_scale iM_night rM_heardRow rM_cutRow iM_breaths iM_cutMany iM_allBreaths rM_trial rM_words iM_fewestBreaths iM_orderMany iM_orderSum iM_leastOrder rM_often iM_setMany iM_someOf iM_allOf iM_allWeight iM_enoughWeight iM_worthSum iM_firstRest iM_leastDrawn), (arI rM_r kM_r 287 fM_r), (arI rM_told kM_told 90 fM_told), (arI rM_st kM_st 90 fM_st), (arI rM_heardRow kM_heardRow 400 fM_heardRow), (arI rM_cutRow kM_cutRow 800 fM_cutRow), (arI rM_trial kM_trial 90 fM_trial)] sz)) 0 0 (va_A [(oc7 oM iM_thrown rM_tape iM_taped iM_size iM_at iM_end iM_token iM_whole iM_nameSize iM_fault iM_place iM_trouble rM_letters iM_failed iM_hasCourt rM_r rM_fresh rM_told rM_read rM_st rM_undone rM_kept iM_undos iM_images rM_fresher iM_fresherSize iM_scale iM_night rM_heardRow rM_cutRow iM_breaths iM_cutMany iM_allBreaths rM_trial rM_words iM_fewestBreaths iM_orderMany iM_orderSum iM_leastOrder rM_often iM_setMany iM_someOf iM_allOf iM_allWeight iM_enoughWeight iM_worthSum iM_firstRest iM_leastDrawn), (arI rM_r kM_r 287 fM_r), (arI rM_told kM_told 90 fM_told), (arI rM_st kM_st 90 fM_st), (arI rM_heardRow kM_heardRow 400 fM_heardRow), (arI rM_cutRow kM_cutRow 800 fM_cutRow), (arI rM_trial kM_trial 90 fM_trial)] sz) := by
  refine Met.ofW (cc := cX7_firstBreaths) (maxL := 2) (ret := (some .int)) pnX7 rfl ?_
  intro p e s m args below meth c s₁ B hml hv
  obtain ⟨rfl, hsz, hP, hK, hD0, hE⟩ := hv
  have hx := B.exec
  have hb := B.bytes
  have hr := B.returns
  have hts : ∀ w ∈ wG, w.before ([.ref oM, .int p0] : List Value).toArray s = true := fun w h => atoms_spec (ws := Cond.code yX7_firstBreaths cX7_firstBreaths 2 (some .int) :: wG) B.pre w (List.mem_cons_of_mem _ h)
  have hown : s.vm.findClass RX7 = some m.cls := own_of B.named rfl
  have hlocks := B.notSynchronized
  subst hsz
  have hD := hD0.self (sz := s.heap.size)
  generalize hAe : va_A [(oc7 oM iM_thrown rM_tape iM_taped iM_size iM_at iM_end iM_token iM_whole iM_nameSize iM_fault iM_place iM_trouble rM_letters iM_failed iM_hasCourt rM_r rM_fresh rM_told rM_read rM_st rM_undone rM_kept iM_undos iM_images rM_fresher iM_fresherSize iM_scale iM_night rM_heardRow rM_cutRow iM_breaths iM_cutMany iM_allBreaths rM_trial rM_words iM_fewestBreaths iM_orderMany iM_orderSum iM_leastOrder rM_often iM_setMany iM_someOf iM_allOf iM_allWeight iM_enoughWeight iM_worthSum iM_firstRest iM_leastDrawn), (arI rM_r kM_r 287 fM_r), (arI rM_told kM_told 90 fM_told), (arI rM_st kM_st 90 fM_st), (arI rM_heardRow kM_heardRow 400 fM_heardRow), (arI rM_cutRow kM_cutRow 800 fM_cutRow), (arI rM_trial kM_trial 90 fM_trial)] s.heap.size = A at hD hE ⊢
  have hA : ∀ q : Nat, s.heap.size ≤ q → A q := fun q h => by rw [← hAe]; exact Or.inr h
  have hS : va_S A s.heap s.heap [] := va_S.rf
  have hl := lv_entry ([.ref oM, .int p0]) (n := 2) (Nat.le_of_ble_eq_true rfl)
  rw [lg_entry_eq]
  generalize (lg_sl ([.ref oM, .int p0]) ++ List.replicate (2 - (lg_sl ([.ref oM, .int p0])).length) Slot.unset).toArray = ls at hl ⊢
  have hl : lv_has ls 2 [(0, .ref oM), (1, .int p0)] := hl
  have s_slips := r_R.slips
  have s_nodes := r_R.nodes
  have s_uns := r_R.uns
  refine lv_aload_n hx hb dX7_firstBreaths_0 rfl (lv_at hl 0 rfl) ?_
  have hMs := ml_of hD [true, false, false, false, false, false, false] (wc := [(oc7 oM iM_thrown rM_tape iM_taped iM_size iM_at iM_end iM_token iM_whole iM_nameSize iM_fault iM_place iM_trouble rM_letters iM_failed iM_hasCourt rM_r rM_fresh rM_told rM_read rM_st rM_undone rM_kept iM_undos iM_images rM_fresher iM_fresherSize iM_scale iM_night rM_heardRow rM_cutRow iM_breaths iM_cutMany iM_allBreaths rM_trial rM_words iM_fewestBreaths iM_orderMany iM_orderSum iM_leastOrder rM_often iM_setMany iM_someOf iM_allOf iM_allWeight iM_enoughWeight iM_worthSum iM_firstRest iM_leastDrawn)]) rfl
  have hFc := va_freeM hD hS hA _ hMs
  refine va_callv (va_runV (As := []) (rest := []) ⟨hx, hb, hml, hown, hts⟩ (tX7_good l dC dI _ oM iM_thrown rM_tape iM_taped iM_size iM_at iM_end iM_token iM_whole iM_nameSize iM_fault iM_place iM_trouble rM_letters iM_failed iM_hasCourt rM_r rM_fresh rM_told rM_read rM_st rM_undone rM_kept iM_undos iM_images rM_fresher iM_fresherSize iM_scale iM_night rM_heardRow rM_cutRow iM_breaths iM_cutMany iM_allBreaths rM_trial rM_words iM_fewestBreaths iM_orderMany iM_orderSum iM_leastOrder rM_often iM_setMany iM_someOf iM_allOf iM_allWeight iM_enoughWeight iM_worthSum iM_firstRest iM_leastDrawn b_iM_taped b_iM_size b_iM_end b_iM_failed b_iM_hasCourt b_iM_undos b_iM_images b_iM_scale b_iM_breaths b_iM_cutMany) (cwV 0 hts (wd_V wd_388 wd_389 wd_390 wd_5 (wd_c wd_391)) rfl rfl rfl dv_yX7_good_0 ⟨Nat.le_of_ble_eq_true rfl, Nat.le_of_ble_eq_true rfl⟩) ⟨Pw.fb, recvX7 hK hP (q0 := 0) rfl, fun U hU hW => Pw.to (hP.ms _ hMs) (hD.ms _ hMs) (hK.ms [false, false, false, false, false, false] rfl) hE hS hFc hU hW⟩ rfl rfl hl.1 rfl (lv_room (Nat.le_of_ble_eq_true rfl)) dX7_firstBreaths_1 ⟨Nat.le_of_ble_eq_true rfl, Nat.le_of_ble_eq_true rfl⟩) hS (fun q _ h => hFc q h) hFc (fun u t H locs ht hvm hw hB hz1 hk1 hS => ?_)
  refine ex_2_3 hB (fun x_2128 x_2129 b_x_2128 b_x_2129 e_x_2128_0 hB => ?_)
  obtain ⟨hP, hD⟩ := Bw.goN (ws' := [(oc7 oM x_2128 rM_tape iM_taped iM_size iM_at iM_end iM_token iM_whole iM_nameSize iM_fault iM_place x_2129 rM_letters iM_failed iM_hasCourt rM_r rM_fresh rM_told rM_read rM_st rM_undone rM_kept iM_undos iM_images rM_fresher iM_fresherSize iM_scale iM_night rM_heardRow rM_cutRow iM_breaths iM_cutMany iM_allBreaths rM_trial rM_words iM_fewestBreaths iM_orderMany iM_orderSum iM_leastOrder rM_often iM_setMany iM_someOf iM_allOf iM_allWeight iM_enoughWeight iM_worthSum iM_firstRest iM_leastDrawn), (arI rM_r kM_r 287 fM_r), (arI rM_told kM_told 90 fM_told), (arI rM_st kM_st 90 fM_st), (arI rM_heardRow kM_heardRow 400 fM_heardRow), (arI rM_cutRow kM_cutRow 800 fM_cutRow), (arI rM_trial kM_trial 90 fM_trial)]) hB rfl ht hP hD _ hMs hk1 hFc rfl
  clear hz1 hk1 hvm ht hB hMs
  refine lv_aload_n hx hb dX7_firstBreaths_4 rfl (lv_at hl 0 rfl) ?_
  refine lv_iload_n hx hb dX7_firstBreaths_5 rfl (lv_at hl 1 rfl) ?_
  have hMs := ml_of hD [true, true, false, false, false, false, false] (wc := [(oc7 oM x_2128 rM_tape iM_taped iM_size iM_at iM_end iM_token iM_whole iM_nameSize iM_fault iM_place x_2129 rM_letters iM_failed iM_hasCourt rM_r rM_fresh rM_told rM_read rM_st rM_undone rM_kept iM_undos iM_images rM_fresher iM_fresherSize iM_scale iM_night rM_heardRow rM_cutRow iM_breaths iM_cutMany iM_allBreaths rM_trial rM_words iM_fewestBreaths iM_orderMany iM_orderSum iM_leastOrder rM_often iM_setMany iM_someOf iM_allOf iM_allWeight iM_enoughWeight iM_worthSum iM_firstRest iM_leastDrawn), (arI rM_r kM_r 287 fM_r)]) rfl
  have hFc := va_freeM hD hS hA _ hMs
  refine va_calli (va_runV (As := [.int p0]) (rest := []) ⟨hx, hb, hml, hown, hts⟩ (tX7_isNode l dC dI _ oM x_2128 rM_tape iM_taped iM_size iM_at iM_end iM_token iM_whole iM_nameSize iM_fault iM_place x_2129 rM_letters iM_failed iM_hasCourt rM_r fM_r kM_r rM_fresh rM_told rM_read rM_st rM_undone rM_kept iM_undos iM_images rM_fresher iM_fresherSize iM_scale iM_night rM_heardRow rM_cutRow iM_breaths iM_cutMany iM_allBreaths rM_trial rM_words iM_fewestBreaths iM_orderMany iM_orderSum iM_leastOrder rM_often iM_setMany iM_someOf iM_allOf iM_allWeight iM_enoughWeight iM_worthSum iM_firstRest iM_leastDrawn p0 b_iM_taped b_iM_size b_iM_end b_iM_failed b_iM_hasCourt b_iM_undos b_iM_images b_iM_scale b_iM_breaths b_iM_cutMany (by assumption) (by assumption)) (cwV 1 hts (wd_V wd_544 wd_545 wd_546 wd_5 (wd_c wd_547)) rfl rfl rfl dv_yX7_isNode_1 ⟨Nat.le_of_ble_eq_true rfl, Nat.le_of_ble_eq_true rfl⟩) ⟨Pw.fb, recvX7 hK hP (q0 := 0) rfl, fun U hU hW => Pw.to (hP.ms _ hMs) (hD.ms _ hMs) (hK.ms [true, false, false, false, false, false] rfl) hE hS hFc hU hW⟩ rfl rfl hl.1 rfl (lv_room (Nat.le_of_ble_eq_true rfl)) dX7_firstBreaths_6 ⟨Nat.le_of_ble_eq_true rfl, Nat.le_of_ble_eq_true rfl⟩) hS (fun q _ h => hFc q h) hFc (fun r u t H locs ht hvm hw hB hz1 hk1 hS => ?_)
  have hru9 := hw.2
  have hw := hw.1
  obtain ⟨hP, hD⟩ := Bw.goN (ws' := [(oc7 oM x_2128 rM_tape iM_taped iM_size iM_at iM_end iM_token iM_whole iM_nameSize iM_fault iM_place x_2129 rM_letters iM_failed iM_hasCourt rM_r rM_fresh rM_told rM_read rM_st rM_undone rM_kept iM_undos iM_images rM_fresher iM_fresherSize iM_scale iM_night rM_heardRow rM_cutRow iM_breaths iM_cutMany iM_allBreaths rM_trial rM_words iM_fewestBreaths iM_orderMany iM_orderSum iM_leastOrder rM_often iM_setMany iM_someOf iM_allOf iM_allWeight iM_enoughWeight iM_worthSum iM_firstRest iM_leastDrawn), (arI rM_r kM_r 287 fM_r), (arI rM_told kM_told 90 fM_told), (arI rM_st kM_st 90 fM_st), (arI rM_heardRow kM_heardRow 400 fM_heardRow), (arI rM_cutRow kM_cutRow 800 fM_cutRow), (arI rM_trial kM_trial 90 fM_trial)]) hB rfl ht hP hD _ hMs hk1 hFc rfl
  clear hz1 hk1 hvm ht hB hMs
  rcases hw.2 with ⟨rfl, hc_2130⟩ | ⟨rfl, hc_2130⟩
  · skip
    refine lv_if_ne (tgt := 18) hx hb dX7_firstBreaths_9 (by decide) (fun _ => ?_) (fun c => absurd c (by decide))
    refine lv_aload_n hx hb dX7_firstBreaths_18 rfl (lv_at hl 0 rfl) ?_
    refine lv_iload_n hx hb dX7_firstBreaths_19 rfl (lv_at hl 1 rfl) ?_
    have hFc := va_freeI hD hS hA
    refine va_calli (va_runV (As := [.int p0]) (rest := []) ⟨hx, hb, hml, hown, hts⟩ (tX7_firstOf l dC dI _ oM x_2128 rM_tape iM_taped iM_size iM_at iM_end iM_token iM_whole iM_nameSize iM_fault iM_place x_2129 rM_letters iM_failed iM_hasCourt rM_r fM_r kM_r rM_fresh rM_told fM_told kM_told rM_read rM_st fM_st kM_st rM_undone rM_kept iM_undos iM_images rM_fresher iM_fresherSize iM_scale iM_night rM_heardRow fM_heardRow kM_heardRow rM_cutRow fM_cutRow kM_cutRow iM_breaths iM_cutMany iM_allBreaths rM_trial fM_trial kM_trial rM_words iM_fewestBreaths iM_orderMany iM_orderSum iM_leastOrder rM_often iM_setMany iM_someOf iM_allOf iM_allWeight iM_enoughWeight iM_worthSum iM_firstRest iM_leastDrawn p0 b_iM_taped b_iM_size b_iM_end b_iM_failed b_iM_hasCourt b_iM_undos b_iM_images b_iM_scale b_iM_breaths b_iM_cutMany (by assumption) (by assumption) (by assumption) (by assumption) (by assumption) ⟨hc_2130.1, hc_2130.2.1⟩ ⟨hc_2130.2.2.2.1, hc_2130.2.2.2.2⟩) (cwV 1 hts (wd_V wd_1027 wd_1028 wd_1029 wd_5 (wd_c wd_1030)) rfl rfl rfl dv_yX7_firstOf_1 ⟨Nat.le_of_ble_eq_true rfl, Nat.le_of_ble_eq_true rfl⟩) ⟨Pw.fb, recvX7 hK hP (q0 := 0) rfl, fun U hU hW => Pw.to hP hD hK hE hS hFc hU hW⟩ rfl rfl hl.1 rfl (lv_room (Nat.le_of_ble_eq_true rfl)) dX7_firstBreaths_20 ⟨Nat.le_of_ble_eq_true rfl, Nat.le_of_ble_eq_true rfl⟩) hS (fun q _ h => hFc q h) hFc (fun r u t H locs ht hvm hw hB hz1 hk1 hS => ?_)
    refine ex_6_2 hB (fun x_2132 x_2133 x_2134 f_2135 f_2136 f_2137 b_x_2132 b_x_2133 hB => ?_)
    obtain ⟨hP, hD⟩ := Bw.goA (ws' := [(oc7 oM x_2128 rM_tape iM_taped iM_size iM_at iM_end iM_token iM_whole iM_nameSize iM_fault iM_place x_2129 rM_letters iM_failed iM_hasCourt rM_r rM_fresh rM_told rM_read rM_st rM_undone rM_kept iM_undos iM_images rM_fresher iM_fresherSize iM_scale iM_night rM_heardRow rM_cutRow x_2132 x_2133 iM_allBreaths rM_trial rM_words x_2134 iM_orderMany iM_orderSum iM_leastOrder rM_often iM_setMany iM_someOf iM_allOf iM_allWeight iM_enoughWeight iM_worthSum iM_firstRest iM_leastDrawn), (arI rM_r kM_r 287 fM_r), (arI rM_told kM_told 90 fM_told), (arI rM_st kM_st 90 fM_st), (arI rM_heardRow kM_heardRow 400 f_2135), (arI rM_cutRow kM_cutRow 800 f_2136), (arI rM_trial kM_trial 90 f_2137)]) hB rfl ht hFc rfl
    clear hz1 hk1 hvm ht hB
    obtain ⟨x_2138, rfl⟩ : ∃ z, z = r := ⟨_, rfl⟩
    refine lv_pop hx hb dX7_firstBreaths_23 rfl ?_
    refine lv_aload_n hx hb dX7_firstBreaths_24 rfl (lv_at hl 0 rfl) ?_
    refine va_get (D := (dC, dI)) (ci := 7) (v := .int x_2134) (C := RX7) (T := TX7) (N := 48) hx hb hts inX7 hown hK hP 0 rfl rfl 35 (by decide) (hts _ wd_1031) (fun _ h9 => h9) rfl dX7_firstBreaths_25 ?_
    exact wq_i hx hb hr 0 ⟨trivial, trivial⟩ (fun t ht hW => ⟨x_2128, x_2129, x_2132, x_2133, x_2134, f_2135, f_2136, f_2137, b_x_2132, b_x_2133, Bw.to hP hD hK ht hW⟩) hS dX7_firstBreaths_28 hlocks
  · skip
    refine lv_if_ne (tgt := 18) hx hb dX7_firstBreaths_9 (by decide) (fun c => absurd c (by decide)) (fun _ => ?_)
    refine lv_aload_n hx hb dX7_firstBreaths_12 rfl (lv_at hl 0 rfl) ?_
    refine lv_iconst (v := 1) hx hb dX7_firstBreaths_13 (by decide) ?_
    have hMs := ml_of hD [true, false, false, false, false, false, false] (wc := [(oc7 oM x_2128 rM_tape iM_taped iM_size iM_at iM_end iM_token iM_whole iM_nameSize iM_fault iM_place x_2129 rM_letters iM_failed iM_hasCourt rM_r rM_fresh rM_told rM_read rM_st rM_undone rM_kept iM_undos iM_images rM_fresher iM_fresherSize iM_scale iM_night rM_heardRow rM_cutRow iM_breaths iM_cutMany iM_allBreaths rM_trial rM_words iM_fewestBreaths iM_orderMany iM_orderSum iM_leastOrder rM_often iM_setMany iM_someOf iM_allOf iM_allWeight iM_enoughWeight iM_worthSum iM_firstRest iM_leastDrawn)]) rfl
    have hFc := va_freeM hD hS hA _ hMs
    refine va_calli (va_runV (As := [.int 1]) (rest := []) ⟨hx, hb, hml, hown, hts⟩ (tX7_no l dC dI _ oM x_2128 rM_tape iM_taped iM_size iM_at iM_end iM_token iM_whole iM_nameSize iM_fault iM_place x_2129 rM_letters iM_failed iM_hasCourt rM_r rM_fresh rM_told rM_read rM_st rM_undone rM_kept iM_undos iM_images rM_fresher iM_fresherSize iM_scale iM_night rM_heardRow rM_cutRow iM_breaths iM_cutMany iM_allBreaths rM_trial rM_words iM_fewestBreaths iM_orderMany iM_orderSum iM_leastOrder rM_often iM_setMany iM_someOf iM_allOf iM_allWeight iM_enoughWeight iM_worthSum iM_firstRest iM_leastDrawn 1 b_iM_taped b_iM_size b_iM_end b_iM_failed b_iM_hasCourt b_iM_undos b_iM_images b_iM_scale b_iM_breaths b_iM_cutMany) (cwV 1 hts (wd_V wd_396 wd_397 wd_398 wd_5 (wd_c wd_399)) rfl rfl rfl dv_yX7_no_1 ⟨Nat.le_of_ble_eq_true rfl, Nat.le_of_ble_eq_true rfl⟩) ⟨Pw.fb, recvX7 hK hP (q0 := 0) rfl, fun U hU hW => Pw.to (hP.ms _ hMs) (hD.ms _ hMs) (hK.ms [false, false, false, false, false, false] rfl) hE hS hFc hU hW⟩ rfl rfl hl.1 rfl (lv_room (Nat.le_of_ble_eq_true rfl)) dX7_firstBreaths_14 ⟨Nat.le_of_ble_eq_true rfl, Nat.le_of_ble_eq_true rfl⟩) hS (fun q _ h => hFc q h) hFc (fun r u t H locs ht hvm hw hB hz1 hk1 hS => ?_)
    have hru9 := hw.2
    have hw := hw.1
    refine ex_1_1 hB (fun x_2140 e_x_2140_0 hB => ?_)
    obtain ⟨hP, hD⟩ := Bw.goN (ws' := [(oc7 oM x_2128 rM_tape iM_taped iM_size iM_at iM_end iM_token iM_whole iM_nameSize iM_fault iM_place x_2140 rM_letters iM_failed iM_hasCourt rM_r rM_fresh rM_told rM_read rM_st rM_undone rM_kept iM_undos iM_images rM_fresher iM_fresherSize iM_scale iM_night rM_heardRow rM_cutRow iM_breaths iM_cutMany iM_allBreaths rM_trial rM_words iM_fewestBreaths iM_orderMany iM_orderSum iM_leastOrder rM_often iM_setMany iM_someOf iM_allOf iM_allWeight iM_enoughWeight iM_worthSum iM_firstRest iM_leastDrawn), (arI rM_r kM_r 287 fM_r), (arI rM_told kM_told 90 fM_told), (arI rM_st kM_st 90 fM_st), (arI rM_heardRow kM_heardRow 400 fM_heardRow), (arI rM_cutRow kM_cutRow 800 fM_cutRow), (arI rM_trial kM_trial 90 fM_trial)]) hB rfl ht hP hD _ hMs hk1 hFc rfl
    clear hz1 hk1 hvm ht hB hMs
    obtain ⟨x_2141, rfl⟩ : ∃ z, z = r := ⟨_, rfl⟩
    exact wq_i hx hb hr 0 ⟨trivial, trivial⟩ (fun t ht hW => ⟨x_2128, x_2140, iM_breaths, iM_cutMany, iM_fewestBreaths, fM_heardRow, fM_cutRow, fM_trial, ⟨b_iM_breaths.1, b_iM_breaths.2⟩, ⟨b_iM_cutMany.1, b_iM_cutMany.2⟩, Bw.to hP hD hK ht hW⟩) hS dX7_firstBreaths_17 hlocks
set_option maxHeartbeats 4000000 in
set_option maxRecDepth 100000 in
theorem tX7_throneAt (l : Launch) (dC : Nat → ClassId) (dI : Nat → Nat → Nat) (sz : Nat) (oM : Nat) (iM_thrown : Int32) (rM_tape : Nat) (iM_taped : Int32) (iM_size : Int32) (iM_at : Int32) (iM_end : Int32) (iM_token : Int32) (iM_whole : Int32) (iM_nameSize : Int32) (iM_fault : Int32) (iM_place : Int32) (iM_trouble : Int32) (rM_letters : Nat) (iM_failed : Int32) (iM_hasCourt : Int32) (rM_r : Nat) (fM_r : Nat → Int32) (kM_r : ClassId) (rM_fresh : Nat) (rM_told : Nat) (fM_told : Nat → Int32) (kM_told : ClassId) (rM_read : Nat) (rM_st : Nat) (fM_st : Nat → Int32) (kM_st : ClassId) (rM_undone : Nat) (rM_kept : Nat) (iM_undos : Int32) (iM_images : Int32) (rM_fresher : Nat) (iM_fresherSize : Int32) (iM_scale : Int32) (iM_night : Int32) (rM_heardRow : Nat) (rM_cutRow : Nat) (iM_breaths : Int32) (iM_cutMany : Int32) (iM_allBreaths : Int32) (rM_trial : Nat) (rM_words : Nat) (iM_fewestBreaths : Int32) (iM_orderMany : Int32) (iM_orderSum : Int32) (iM_leastOrder : Int32) (rM_often : Nat) (iM_setMany : Int32) (iM_someOf : Int32) (iM_allOf : Int32) (iM_allWeight : Int64) (iM_enoughWeight : Int64) (iM_worthSum : Int64) (iM_firstRest : Int32) (iM_leastDrawn : Int32) (p0 : Int32) (b_iM_taped : 0 ≤ iM_taped.toInt ∧ iM_taped.toInt ≤ 900) (b_iM_size : 0 ≤ iM_size.toInt ∧ iM_size.toInt ≤ 900) (b_iM_end : 0 ≤ iM_end.toInt ∧ iM_end.toInt ≤ 900) (b_iM_failed : 0 ≤ iM_failed.toInt ∧ iM_failed.toInt ≤ 1) (b_iM_hasCourt : 0 ≤ iM_hasCourt.toInt ∧ iM_hasCourt.toInt ≤ 1) (b_iM_undos : 0 ≤ iM_undos.toInt ∧ iM_undos.toInt ≤ 16) (b_iM_images : 0 ≤ iM_images.toInt ∧ iM_images.toInt ≤ 3) (b_iM_scale : 1 ≤ iM_scale.toInt ∧ iM_scale.toInt ≤ 1296) (b_iM_breaths : 0 ≤ iM_breaths.toInt ∧ iM_breaths.toInt ≤ 399) (b_iM_cutMany : 0 ≤ iM_cutMany.toInt ∧ iM_cutMany.toInt ≤ 399) (r_R : ROk fM_r) (r_C : iM_hasCourt.toInt ≤ 0 ∨ (1 ≤ (fM_r 1).toInt ∧ 0 ≤ (fM_r 6).toInt ∧ (fM_r 6).toInt < (fM_r 1).toInt)) (r_st : RowOk fM_r fM_st) (r_told : RowOk fM_r fM_told) (r_wst : WorOk fM_st) (hth : 0 ≤ (fM_r 6).toInt ∧ (fM_r 6).toInt < (fM_r 1).toInt) : Met l yX7_throneAt (Cond.code yX7_throneAt cX7_throneAt 3 (some .int) :: wG) ({ frames := 22, cells := 0, slots := 0, locals := 585 }) (va_Pc [.ref oM, .int p0] (Pw dC dI sz [(oc7 oM iM_thrown rM_tape iM_taped iM_size iM_at iM_end iM_token iM_whole iM_nameSize iM_fault iM_place iM_trouble rM_letters iM_failed iM_hasCourt rM_r rM_fresh rM_told rM_read rM_st rM_undone rM_kept iM_undos iM_images rM_fresher iM_fresherSize iM_scale iM_night rM_heardRow rM_cutRow iM_breaths iM_cutMany iM_allBreaths rM_trial rM_words iM_fewestBreaths iM_orderMany iM_orderSum iM_leastOrder rM_often iM_setMany iM_someOf iM_allOf iM_allWeight iM_enoughWeight iM_worthSum iM_firstRest iM_leastDrawn), (arI rM_r kM_r 287 fM_r), (arI rM_told kM_told 90 fM_told), (arI rM_st kM_st 90 fM_st)] [(kM_r, .int), (kM_told, .int), (kM_st, .int)])) (va_Qi (fun (r : Int32) (u : Nat) => (True ∧ True) ∧ r = Int32.ofNat u) (fun (u : Nat) (t : State) => ∃ (niM_night : Int32), ((-1) ≤ niM_night.toInt ∧ niM_night.toInt ≤ (-1)) ∧ (PX7_throneAt fM_r fM_told fM_st iM_scale p0 = (Int32.ofNat u, niM_night)) ∧ Bw dC dI (va_A [(oc7 oM iM_thrown rM_tape iM_taped iM_size iM_at iM_end iM_token iM_whole iM_nameSize iM_fault iM_place iM_trouble rM_letters iM_failed iM_hasCourt rM_r rM_fresh rM_told rM_read rM_st rM_undone rM_kept iM_undos iM_images rM_fresher iM_fresherSize iM_scale iM_night rM_heardRow rM_cutRow iM_breaths iM_cutMany iM_allBreaths rM_trial rM_words iM_fewestBreaths iM_orderMany iM_orderSum iM_leastOrder rM_often iM_setMany iM_someOf iM_allOf iM_allWeight iM_enoughWeight iM_worthSum iM_firstRest iM_leastDrawn), (arI rM_r kM_r 287 fM_r), (arI rM_told kM_told 90 fM_told), (arI rM_st kM_st 90 fM_st)] sz) [(oc7 oM iM_thrown rM_tape iM_taped iM_size iM_at iM_end iM_token iM_whole iM_nameSize iM_fault iM_place iM_trouble rM_letters iM_failed iM_hasCourt rM_r rM_fresh rM_told rM_read rM_st rM_undone rM_kept iM_undos iM_images rM_fresher iM_fresherSize iM_scale niM_night rM_heardRow rM_cutRow iM_breaths iM_cutMany iM_allBreaths rM_trial rM_words iM_fewestBreaths iM_orderMany iM_orderSum iM_leastOrder rM_often iM_setMany iM_someOf iM_allOf iM_allWeight iM_enoughWeight iM_worthSum iM_firstRest iM_leastDrawn), (arI rM_r kM_r 287 fM_r), (arI rM_told kM_told 90 fM_told), (arI rM_st kM_st 90 fM_st)] [(kM_r, .int), (kM_told, .int), (kM_st, .int)] t) (va_A [(oc7 oM iM_thrown rM_tape iM_taped iM_size iM_at iM_end iM_token iM_whole iM_nameSize iM_fault iM_place iM_trouble rM_letters iM_failed iM_hasCourt rM_r rM_fresh rM_told rM_read rM_st rM_undone rM_kept iM_undos iM_images rM_fresher iM_fresherSize iM_scale iM_night rM_heardRow rM_cutRow iM_breaths iM_cutMany iM_allBreaths rM_trial rM_words iM_fewestBreaths iM_orderMany iM_orderSum iM_leastOrder rM_often iM_setMany iM_someOf iM_allOf iM_allWeight iM_enoughWeight iM_worthSum iM_firstRest iM_leastDrawn), (arI rM_r kM_r 287 fM_r), (arI rM_told kM_told 90 fM_told), (arI rM_st kM_st 90 fM_st)] sz)) 0 0 (va_A [(oc7 oM iM_thrown rM_tape iM_taped iM_size iM_at iM_end iM_token iM_whole iM_nameSize iM_fault iM_place iM_trouble rM_letters iM_failed iM_hasCourt rM_r rM_fresh rM_told rM_read rM_st rM_undone rM_kept iM_undos iM_images rM_fresher iM_fresherSize iM_scale iM_night rM_heardRow rM_cutRow iM_breaths iM_cutMany iM_allBreaths rM_trial rM_words iM_fewestBreaths iM_orderMany iM_orderSum iM_leastOrder rM_often iM_setMany iM_someOf iM_allOf iM_allWeight iM_enoughWeight iM_worthSum iM_firstRest iM_leastDrawn), (arI rM_r kM_r 287 fM_r), (arI rM_told kM_told 90 fM_told), (arI rM_st kM_st 90 fM_st)] sz) := by
  refine Met.ofW (cc := cX7_throneAt) (maxL := 3) (ret := (some .int)) pnX7 rfl ?_
  intro p e s m args below meth c s₁ B hml hv
  obtain ⟨rfl, hsz, hP, hK, hD0, hE⟩ := hv
  have hx := B.exec
  have hb := B.bytes
  have hr := B.returns
  have hts : ∀ w ∈ wG, w.before ([.ref oM, .int p0] : List Value).toArray s = true := fun w h => atoms_spec (ws := Cond.code yX7_throneAt cX7_throneAt 3 (some .int) :: wG) B.pre w (List.mem_cons_of_mem _ h)
  have hown : s.vm.findClass RX7 = some m.cls := own_of B.named rfl
  have hlocks := B.notSynchronized
  subst hsz
  have hD := hD0.self (sz := s.heap.size)
  generalize hAe : va_A [(oc7 oM iM_thrown rM_tape iM_taped iM_size iM_at iM_end iM_token iM_whole iM_nameSize iM_fault iM_place iM_trouble rM_letters iM_failed iM_hasCourt rM_r rM_fresh rM_told rM_read rM_st rM_undone rM_kept iM_undos iM_images rM_fresher iM_fresherSize iM_scale iM_night rM_heardRow rM_cutRow iM_breaths iM_cutMany iM_allBreaths rM_trial rM_words iM_fewestBreaths iM_orderMany iM_orderSum iM_leastOrder rM_often iM_setMany iM_someOf iM_allOf iM_allWeight iM_enoughWeight iM_worthSum iM_firstRest iM_leastDrawn), (arI rM_r kM_r 287 fM_r), (arI rM_told kM_told 90 fM_told), (arI rM_st kM_st 90 fM_st)] s.heap.size = A at hD hE ⊢
  have hA : ∀ q : Nat, s.heap.size ≤ q → A q := fun q h => by rw [← hAe]; exact Or.inr h
  have hS : va_S A s.heap s.heap [] := va_S.rf
  have hl := lv_entry ([.ref oM, .int p0]) (n := 3) (Nat.le_of_ble_eq_true rfl)
  rw [lg_entry_eq]
  generalize (lg_sl ([.ref oM, .int p0]) ++ List.replicate (3 - (lg_sl ([.ref oM, .int p0])).length) Slot.unset).toArray = ls at hl ⊢
  have hl : lv_has ls 3 [(0, .ref oM), (1, .int p0)] := hl
  have hG := PX7_throneAt_eq fM_r fM_told fM_st iM_scale p0
  have s_slips := r_R.slips
  have s_nodes := r_R.nodes
  have s_uns := r_R.uns
  refine lv_aload_n hx hb dX7_throneAt_0 rfl (lv_at hl 0 rfl) ?_
  refine lv_iload_n hx hb dX7_throneAt_1 rfl (lv_at hl 1 rfl) ?_
  refine va_put (D := (dC, dI)) (ci := 7) (v := .int p0) (ty := .int) (C := RX7) (T := TX7) (N := 48) hx hb hts inX7 tyX7 tyX7_ok nmX7 hown hK hP hD hS 0 rfl rfl 27 (by decide) (hts _ wd_164) (fun _ h9 => h9) rfl (by decide +kernel) rfl rfl (Nat.le_of_ble_eq_true rfl) dX7_throneAt_2 (fun H locs hP hD hS => ?_)
  obtain ⟨hP, hD⟩ := wl2 (ws' := [(oc7 oM iM_thrown rM_tape iM_taped iM_size iM_at iM_end iM_token iM_whole iM_nameSize iM_fault iM_place iM_trouble rM_letters iM_failed iM_hasCourt rM_r rM_fresh rM_told rM_read rM_st rM_undone rM_kept iM_undos iM_images rM_fresher iM_fresherSize iM_scale p0 rM_heardRow rM_cutRow iM_breaths iM_cutMany iM_allBreaths rM_trial rM_words iM_fewestBreaths iM_orderMany iM_orderSum iM_leastOrder rM_often iM_setMany iM_someOf iM_allOf iM_allWeight iM_enoughWeight iM_worthSum iM_firstRest iM_leastDrawn), (arI rM_r kM_r 287 fM_r), (arI rM_told kM_told 90 fM_told), (arI rM_st kM_st 90 fM_st)]) hP hD rfl
  refine lv_aload_n hx hb dX7_throneAt_5 rfl (lv_at hl 0 rfl) ?_
  refine lv_aload_n hx hb dX7_throneAt_6 rfl (lv_at hl 0 rfl) ?_
  refine va_get (D := (dC, dI)) (ci := 7) (v := .ref rM_st) (C := RX7) (T := TX7) (N := 48) hx hb hts inX7 hown hK hP 0 rfl rfl 19 (by decide) (hts _ wd_159) (fun _ h9 => h9) rfl dX7_throneAt_7 ?_
  have hFc := va_freeI hD hS hA
  refine va_calli (va_runV (As := [.ref rM_st]) (rest := []) ⟨hx, hb, hml, hown, hts⟩ (tX7_throneBy l dC dI _ oM iM_thrown rM_tape iM_taped iM_size iM_at iM_end iM_token iM_whole iM_nameSize iM_fault iM_place iM_trouble rM_letters iM_failed iM_hasCourt rM_r fM_r kM_r rM_fresh rM_told fM_told kM_told rM_read rM_st rM_undone rM_kept iM_undos iM_images rM_fresher iM_fresherSize iM_scale p0 rM_heardRow rM_cutRow iM_breaths iM_cutMany iM_allBreaths rM_trial rM_words iM_fewestBreaths iM_orderMany iM_orderSum iM_leastOrder rM_often iM_setMany iM_someOf iM_allOf iM_allWeight iM_enoughWeight iM_worthSum iM_firstRest iM_leastDrawn rM_st fM_st kM_st b_iM_taped b_iM_size b_iM_end b_iM_failed b_iM_hasCourt b_iM_undos b_iM_images b_iM_scale b_iM_breaths b_iM_cutMany (by assumption) (by assumption) (by assumption) (by assumption) ⟨hth.1, hth.2⟩) (cwV 1 hts (wd_V wd_979 wd_980 wd_981 wd_5 (wd_c wd_982)) rfl rfl rfl dv_yX7_throneBy_1 ⟨Nat.le_of_ble_eq_true rfl, Nat.le_of_ble_eq_true rfl⟩) ⟨Pw.fb, recvX7 hK hP (q0 := 0) rfl, fun U hU hW => Pw.to hP hD hK hE hS hFc hU hW⟩ rfl rfl hl.1 rfl (lv_room (Nat.le_of_ble_eq_true rfl)) dX7_throneAt_10 ⟨Nat.le_of_ble_eq_true rfl, Nat.le_of_ble_eq_true rfl⟩) hS (fun q _ h => hFc q h) hFc (fun r u t H locs ht hvm hw hB hz1 hk1 hS => ?_)
  have hru9 := hw.2
  have hw := hw.1
  obtain ⟨hP, hD⟩ := Bw.goA (ws' := [(oc7 oM iM_thrown rM_tape iM_taped iM_size iM_at iM_end iM_token iM_whole iM_nameSize iM_fault iM_place iM_trouble rM_letters iM_failed iM_hasCourt rM_r rM_fresh rM_told rM_read rM_st rM_undone rM_kept iM_undos iM_images rM_fresher iM_fresherSize iM_scale p0 rM_heardRow rM_cutRow iM_breaths iM_cutMany iM_allBreaths rM_trial rM_words iM_fewestBreaths iM_orderMany iM_orderSum iM_leastOrder rM_often iM_setMany iM_someOf iM_allOf iM_allWeight iM_enoughWeight iM_worthSum iM_firstRest iM_leastDrawn), (arI rM_r kM_r 287 fM_r), (arI rM_told kM_told 90 fM_told), (arI rM_st kM_st 90 fM_st)]) hB rfl ht hFc rfl
  clear hz1 hk1 hvm ht hB
  obtain ⟨x_2143, rfl⟩ : ∃ z, z = r := ⟨_, rfl⟩
  have hG := hG.trans (lt_eq hru9.symm)
  refine lv_istore_n (lv' := [(2, .int x_2143), (0, .ref oM), (1, .int p0)]) hx hb dX7_throneAt_13 rfl hl (by decide) rfl (fun ls hl => ?_)
  refine lv_aload_n hx hb dX7_throneAt_14 rfl (lv_at hl 1 rfl) ?_
  refine lv_iconst (v := (-1)) hx hb dX7_throneAt_15 (by decide) ?_
  refine va_put (D := (dC, dI)) (ci := 7) (v := .int (-1)) (ty := .int) (C := RX7) (T := TX7) (N := 48) hx hb hts inX7 tyX7 tyX7_ok nmX7 hown hK hP hD hS 0 rfl rfl 27 (by decide) (hts _ wd_164) (fun _ h9 => h9) rfl (by decide +kernel) rfl rfl (Nat.le_of_ble_eq_true rfl) dX7_throneAt_16 (fun H locs hP hD hS => ?_)
  obtain ⟨hP, hD⟩ := wl2 (ws' := [(oc7 oM iM_thrown rM_tape iM_taped iM_size iM_at iM_end iM_token iM_whole iM_nameSize iM_fault iM_place iM_trouble rM_letters iM_failed iM_hasCourt rM_r rM_fresh rM_told rM_read rM_st rM_undone rM_kept iM_undos iM_images rM_fresher iM_fresherSize iM_scale (-1) rM_heardRow rM_cutRow iM_breaths iM_cutMany iM_allBreaths rM_trial rM_words iM_fewestBreaths iM_orderMany iM_orderSum iM_leastOrder rM_often iM_setMany iM_someOf iM_allOf iM_allWeight iM_enoughWeight iM_worthSum iM_firstRest iM_leastDrawn), (arI rM_r kM_r 287 fM_r), (arI rM_told kM_told 90 fM_told), (arI rM_st kM_st 90 fM_st)]) hP hD rfl
  refine lv_iload_n hx hb dX7_throneAt_19 rfl (lv_at hl 0 rfl) ?_
  exact wq_i hx hb hr (cI x_2143) ⟨⟨trivial, trivial⟩, (cI_of x_2143)⟩ (fun t ht hW => ⟨(-1), (by decide), (cI_tup hG), Bw.to hP hD hK ht hW⟩) hS dX7_throneAt_20 hlocks
set_option maxHeartbeats 4000000 in
set_option maxRecDepth 100000 in
theorem tX7_night (l : Launch) (dC : Nat → ClassId) (dI : Nat → Nat → Nat) (sz : Nat) (oM : Nat) (iM_thrown : Int32) (rM_tape : Nat) (iM_taped : Int32) (iM_size : Int32) (iM_at : Int32) (iM_end : Int32) (iM_token : Int32) (iM_whole : Int32) (iM_nameSize : Int32) (iM_fault : Int32) (iM_place : Int32) (iM_trouble : Int32) (rM_letters : Nat) (iM_failed : Int32) (iM_hasCourt : Int32) (rM_r : Nat) (fM_r : Nat → Int32) (kM_r : ClassId) (rM_fresh : Nat) (rM_told : Nat) (fM_told : Nat → Int32) (kM_told : ClassId) (rM_read : Nat) (rM_st : Nat) (fM_st : Nat → Int32) (kM_st : ClassId) (rM_undone : Nat) (rM_kept : Nat) (iM_undos : Int32) (iM_images : Int32) (rM_fresher : Nat) (iM_fresherSize : Int32) (iM_scale : Int32) (iM_night : Int32) (rM_heardRow : Nat) (rM_cutRow : Nat) (iM_breaths : Int32) (iM_cutMany : Int32) (iM_allBreaths : Int32) (rM_trial : Nat) (rM_words : Nat) (iM_fewestBreaths : Int32) (iM_orderMany : Int32) (iM_orderSum : Int32) (iM_leastOrder : Int32) (rM_often : Nat) (iM_setMany : Int32) (iM_someOf : Int32) (iM_allOf : Int32) (iM_allWeight : Int64) (iM_enoughWeight : Int64) (iM_worthSum : Int64) (iM_firstRest : Int32) (iM_leastDrawn : Int32) (p0 : Int32) (p1 : Int32) (b_iM_taped : 0 ≤ iM_taped.toInt ∧ iM_taped.toInt ≤ 900) (b_iM_size : 0 ≤ iM_size.toInt ∧ iM_size.toInt ≤ 900) (b_iM_end : 0 ≤ iM_end.toInt ∧ iM_end.toInt ≤ 900) (b_iM_failed : 0 ≤ iM_failed.toInt ∧ iM_failed.toInt ≤ 1) (b_iM_hasCourt : 0 ≤ iM_hasCourt.toInt ∧ iM_hasCourt.toInt ≤ 1) (b_iM_undos : 0 ≤ iM_undos.toInt ∧ iM_undos.toInt ≤ 16) (b_iM_images : 0 ≤ iM_images.toInt ∧ iM_images.toInt ≤ 3) (b_iM_scale : 1 ≤ iM_scale.toInt ∧ iM_scale.toInt ≤ 1296) (b_iM_breaths : 0 ≤ iM_breaths.toInt ∧ iM_breaths.toInt ≤ 399) (b_iM_cutMany : 0 ≤ iM_cutMany.toInt ∧ iM_cutMany.toInt ≤ 399) (r_R : ROk fM_r) (r_C : iM_hasCourt.toInt ≤ 0 ∨ (1 ≤ (fM_r 1).toInt ∧ 0 ≤ (fM_r 6).toInt ∧ (fM_r 6).toInt < (fM_r 1).toInt)) (r_st : RowOk fM_r fM_st) (r_told : RowOk fM_r fM_told) (r_wst : WorOk fM_st) (hnt : iM_night.toInt = -1) : Met l yX7_night (Cond.code yX7_night cX7_night 4 (some .long) :: wG) ({ frames := 23, cells := 0, slots := 0, locals := 607 }) (va_Pc [.ref oM, .int p0, .int p1] (Pw dC dI sz [(oc7 oM iM_thrown rM_tape iM_taped iM_size iM_at iM_end iM_token iM_whole iM_nameSize iM_fault iM_place iM_trouble rM_letters iM_failed iM_hasCourt rM_r rM_fresh rM_told rM_read rM_st rM_undone rM_kept iM_undos iM_images rM_fresher iM_fresherSize iM_scale iM_night rM_heardRow rM_cutRow iM_breaths iM_cutMany iM_allBreaths rM_trial rM_words iM_fewestBreaths iM_orderMany iM_orderSum iM_leastOrder rM_often iM_setMany iM_someOf iM_allOf iM_allWeight iM_enoughWeight iM_worthSum iM_firstRest iM_leastDrawn), (arI rM_r kM_r 287 fM_r), (arI rM_told kM_told 90 fM_told), (arI rM_st kM_st 90 fM_st)] [(kM_r, .int), (kM_told, .int), (kM_st, .int)])) (va_Ql (fun (r : Int64) (u : Nat) => (True ∧ True) ∧ r = Int64.ofNat u) (fun (u : Nat) (t : State) => ∃ (niM_thrown : Int32) (niM_trouble : Int32) (niM_night : Int32), (niM_night.toInt = -1) ∧ (PX7_night iM_hasCourt fM_r fM_told fM_st iM_scale iM_night p0 p1 = (Int64.ofNat u, niM_thrown, niM_trouble, niM_night)) ∧ Bw dC dI (va_A [(oc7 oM iM_thrown rM_tape iM_taped iM_size iM_at iM_end iM_token iM_whole iM_nameSize iM_fault iM_place iM_trouble rM_letters iM_failed iM_hasCourt rM_r rM_fresh rM_told rM_read rM_st rM_undone rM_kept iM_undos iM_images rM_fresher iM_fresherSize iM_scale iM_night rM_heardRow rM_cutRow iM_breaths iM_cutMany iM_allBreaths rM_trial rM_words iM_fewestBreaths iM_orderMany iM_orderSum iM_leastOrder rM_often iM_setMany iM_someOf iM_allOf iM_allWeight iM_enoughWeight iM_worthSum iM_firstRest iM_leastDrawn), (arI rM_r kM_r 287 fM_r), (arI rM_told kM_told 90 fM_told), (arI rM_st kM_st 90 fM_st)] sz) [(oc7 oM niM_thrown rM_tape iM_taped iM_size iM_at iM_end iM_token iM_whole iM_nameSize iM_fault iM_place niM_trouble rM_letters iM_failed iM_hasCourt rM_r rM_fresh rM_told rM_read rM_st rM_undone rM_kept iM_undos iM_images rM_fresher iM_fresherSize iM_scale niM_night rM_heardRow rM_cutRow iM_breaths iM_cutMany iM_allBreaths rM_trial rM_words iM_fewestBreaths iM_orderMany iM_orderSum iM_leastOrder rM_often iM_setMany iM_someOf iM_allOf iM_allWeight iM_enoughWeight iM_worthSum iM_firstRest iM_leastDrawn), (arI rM_r kM_r 287 fM_r), (arI rM_told kM_told 90 fM_told), (arI rM_st kM_st 90 fM_st)] [(kM_r, .int), (kM_told, .int), (kM_st, .int)] t) (va_A [(oc7 oM iM_thrown rM_tape iM_taped iM_size iM_at iM_end iM_token iM_whole iM_nameSize iM_fault iM_place iM_trouble rM_letters iM_failed iM_hasCourt rM_r rM_fresh rM_told rM_read rM_st rM_undone rM_kept iM_undos iM_images rM_fresher iM_fresherSize iM_scale iM_night rM_heardRow rM_cutRow iM_breaths iM_cutMany iM_allBreaths rM_trial rM_words iM_fewestBreaths iM_orderMany iM_orderSum iM_leastOrder rM_often iM_setMany iM_someOf iM_allOf iM_allWeight iM_enoughWeight iM_worthSum iM_firstRest iM_leastDrawn), (arI rM_r kM_r 287 fM_r), (arI rM_told kM_told 90 fM_told), (arI rM_st kM_st 90 fM_st)] sz)) 0 0 (va_A [(oc7 oM iM_thrown rM_tape iM_taped iM_size iM_at iM_end iM_token iM_whole iM_nameSize iM_fault iM_place iM_trouble rM_letters iM_failed iM_hasCourt rM_r rM_fresh rM_told rM_read rM_st rM_undone rM_kept iM_undos iM_images rM_fresher iM_fresherSize iM_scale iM_night rM_heardRow rM_cutRow iM_breaths iM_cutMany iM_allBreaths rM_trial rM_words iM_fewestBreaths iM_orderMany iM_orderSum iM_leastOrder rM_often iM_setMany iM_someOf iM_allOf iM_allWeight iM_enoughWeight iM_worthSum iM_firstRest iM_leastDrawn), (arI rM_r kM_r 287 fM_r), (arI rM_told kM_told 90 fM_told), (arI rM_st kM_st 90 fM_st)] sz) := by
  refine Met.ofW (cc := cX7_night) (maxL := 4) (ret := (some .long)) pnX7 rfl ?_
  intro p e s m args below meth c s₁ B hml hv
  obtain ⟨rfl, hsz, hP, hK, hD0, hE⟩ := hv
  have hx := B.exec
  have hb := B.bytes
  have hr := B.returns
  have hts : ∀ w ∈ wG, w.before ([.ref oM, .int p0, .int p1] : List Value).toArray s = true := fun w h => atoms_spec (ws := Cond.code yX7_night cX7_night 4 (some .long) :: wG) B.pre w (List.mem_cons_of_mem _ h)
  have hown : s.vm.findClass RX7 = some m.cls := own_of B.named rfl
  have hlocks := B.notSynchronized
  subst hsz
  have hD := hD0.self (sz := s.heap.size)
  generalize hAe : va_A [(oc7 oM iM_thrown rM_tape iM_taped iM_size iM_at iM_end iM_token iM_whole iM_nameSize iM_fault iM_place iM_trouble rM_letters iM_failed iM_hasCourt rM_r rM_fresh rM_told rM_read rM_st rM_undone rM_kept iM_undos iM_images rM_fresher iM_fresherSize iM_scale iM_night rM_heardRow rM_cutRow iM_breaths iM_cutMany iM_allBreaths rM_trial rM_words iM_fewestBreaths iM_orderMany iM_orderSum iM_leastOrder rM_often iM_setMany iM_someOf iM_allOf iM_allWeight iM_enoughWeight iM_worthSum iM_firstRest iM_leastDrawn), (arI rM_r kM_r 287 fM_r), (arI rM_told kM_told 90 fM_told), (arI rM_st kM_st 90 fM_st)] s.heap.size = A at hD hE ⊢
  have hA : ∀ q : Nat, s.heap.size ≤ q → A q := fun q h => by rw [← hAe]; exact Or.inr h
  have hS : va_S A s.heap s.heap [] := va_S.rf
  have hl := lv_entry ([.ref oM, .int p0, .int p1]) (n := 4) (Nat.le_of_ble_eq_true rfl)
  rw [lg_entry_eq]
  generalize (lg_sl ([.ref oM, .int p0, .int p1]) ++ List.replicate (4 - (lg_sl ([.ref oM, .int p0, .int p1])).length) Slot.unset).toArray = ls at hl ⊢
  have hl : lv_has ls 4 [(0, .ref oM), (1, .int p0), (2, .int p1)] := hl
  have hG := PX7_night_eq iM_hasCourt fM_r fM_told fM_st iM_scale iM_night p0 p1
  have s_slips := r_R.slips
  have s_nodes := r_R.nodes
  have s_uns := r_R.uns
  refine lv_aload_n hx hb dX7_night_0 rfl (lv_at hl 0 rfl) ?_
  have hMs := ml_of hD [true, false, false, false] (wc := [(oc7 oM iM_thrown rM_tape iM_taped iM_size iM_at iM_end iM_token iM_whole iM_nameSize iM_fault iM_place iM_trouble rM_letters iM_failed iM_hasCourt rM_r rM_fresh rM_told rM_read rM_st rM_undone rM_kept iM_undos iM_images rM_fresher iM_fresherSize iM_scale iM_night rM_heardRow rM_cutRow iM_breaths iM_cutMany iM_allBreaths rM_trial rM_words iM_fewestBreaths iM_orderMany iM_orderSum iM_leastOrder rM_often iM_setMany iM_someOf iM_allOf iM_allWeight iM_enoughWeight iM_worthSum iM_firstRest iM_leastDrawn)]) rfl
  have hFc := va_freeM hD hS hA _ hMs
  refine va_callv (va_runV (As := []) (rest := []) ⟨hx, hb, hml, hown, hts⟩ (tX7_good l dC dI _ oM iM_thrown rM_tape iM_taped iM_size iM_at iM_end iM_token iM_whole iM_nameSize iM_fault iM_place iM_trouble rM_letters iM_failed iM_hasCourt rM_r rM_fresh rM_told rM_read rM_st rM_undone rM_kept iM_undos iM_images rM_fresher iM_fresherSize iM_scale iM_night rM_heardRow rM_cutRow iM_breaths iM_cutMany iM_allBreaths rM_trial rM_words iM_fewestBreaths iM_orderMany iM_orderSum iM_leastOrder rM_often iM_setMany iM_someOf iM_allOf iM_allWeight iM_enoughWeight iM_worthSum iM_firstRest iM_leastDrawn b_iM_taped b_iM_size b_iM_end b_iM_failed b_iM_hasCourt b_iM_undos b_iM_images b_iM_scale b_iM_breaths b_iM_cutMany) (cwV 0 hts (wd_V wd_388 wd_389 wd_390 wd_5 (wd_c wd_391)) rfl rfl rfl dv_yX7_good_0 ⟨Nat.le_of_ble_eq_true rfl, Nat.le_of_ble_eq_true rfl⟩) ⟨Pw.fb, recvX7 hK hP (q0 := 0) rfl, fun U hU hW => Pw.to (hP.ms _ hMs) (hD.ms _ hMs) (hK.ms [false, false, false] rfl) hE hS hFc hU hW⟩ rfl rfl hl.1 rfl (lv_room (Nat.le_of_ble_eq_true rfl)) dX7_night_1 ⟨Nat.le_of_ble_eq_true rfl, Nat.le_of_ble_eq_true rfl⟩) hS (fun q _ h => hFc q h) hFc (fun u t H locs ht hvm hw hB hz1 hk1 hS => ?_)
  refine ex_2_3 hB (fun x_2162 x_2163 b_x_2162 b_x_2163 e_x_2162_0 hB => ?_)
  obtain ⟨hP, hD⟩ := Bw.goN (ws' := [(oc7 oM x_2162 rM_tape iM_taped iM_size iM_at iM_end iM_token iM_whole iM_nameSize iM_fault iM_place x_2163 rM_letters iM_failed iM_hasCourt rM_r rM_fresh rM_told rM_read rM_st rM_undone rM_kept iM_undos iM_images rM_fresher iM_fresherSize iM_scale iM_night rM_heardRow rM_cutRow iM_breaths iM_cutMany iM_allBreaths rM_trial rM_words iM_fewestBreaths iM_orderMany iM_orderSum iM_leastOrder rM_often iM_setMany iM_someOf iM_allOf iM_allWeight iM_enoughWeight iM_worthSum iM_firstRest iM_leastDrawn), (arI rM_r kM_r 287 fM_r), (arI rM_told kM_told 90 fM_told), (arI rM_st kM_st 90 fM_st)]) hB rfl ht hP hD _ hMs hk1 hFc rfl
  clear hz1 hk1 hvm ht hB hMs
  have hG := hG.trans (un2_eq e_x_2162_0)
  refine lv_aload_n hx hb dX7_night_4 rfl (lv_at hl 0 rfl) ?_
  refine lv_iload_n hx hb dX7_night_5 rfl (lv_at hl 1 rfl) ?_
  refine lv_iconst (v := 0) hx hb dX7_night_6 (by decide) ?_
  refine lv_bipush (v := 9) hx hb dX7_night_7 (by decide) ?_
  have hFc : ∀ q, va_A [] _ q → A q := fun q h => hA q (Nat.le_trans hS.1 (va_nilA h))
  refine va_calli (va_runS (As := [.int p0, .int 0, .int 9]) (rest := [.ref oM]) ⟨hx, hb, hml, hown, hts⟩ (tX7_in l dC dI _ p0 0 9 ) (va_cwS 3 hts (wd_S wd_393 wd_394 wd_5 (wd_c wd_395)) rfl rfl rfl ds_yX7_in_3 ⟨Nat.le_of_ble_eq_true rfl, Nat.le_of_ble_eq_true rfl⟩) ⟨Pw.fb, fun U hU hW => Pn.to hK hE hS hA hU hW⟩ rfl rfl hl.1 rfl (lv_room (Nat.le_of_ble_eq_true rfl)) dX7_night_9 ⟨Nat.le_of_ble_eq_true rfl, Nat.le_of_ble_eq_true rfl⟩) hS (fun q _ h => hFc q h) hFc (fun r u t H locs ht hvm hw hB hz1 hk1 hS => ?_)
  obtain ⟨hP, hD, hK⟩ := Bw.same ht hvm hP hD hK hk1 hFc
  clear hz1 hk1 hvm ht hB
  have hq9 := hw.2
  have hw := hw.1
  obtain ⟨x_2164, rfl⟩ : ∃ z, z = r := ⟨_, rfl⟩
  have hq_x_2164 := hq9
  have hG := hG.trans (lt_eq hq_x_2164.symm)
  have bx_2164 := hw.1
  have dx_2164 := bz_tb bx_2164
  have px_2164 := hw.2
  have hMs := ml_of hD [true, true, false, false] (wc := [(oc7 oM x_2162 rM_tape iM_taped iM_size iM_at iM_end iM_token iM_whole iM_nameSize iM_fault iM_place x_2163 rM_letters iM_failed iM_hasCourt rM_r rM_fresh rM_told rM_read rM_st rM_undone rM_kept iM_undos iM_images rM_fresher iM_fresherSize iM_scale iM_night rM_heardRow rM_cutRow iM_breaths iM_cutMany iM_allBreaths rM_trial rM_words iM_fewestBreaths iM_orderMany iM_orderSum iM_leastOrder rM_often iM_setMany iM_someOf iM_allOf iM_allWeight iM_enoughWeight iM_worthSum iM_firstRest iM_leastDrawn), (arI rM_r kM_r 287 fM_r)]) rfl
  have hFc := va_freeM hD hS hA _ hMs
  refine va_calli (va_runV (As := [.int x_2164]) (rest := []) ⟨hx, hb, hml, hown, hts⟩ (tX7_why l dC dI _ oM x_2162 rM_tape iM_taped iM_size iM_at iM_end iM_token iM_whole iM_nameSize iM_fault iM_place x_2163 rM_letters iM_failed iM_hasCourt rM_r fM_r kM_r rM_fresh rM_told rM_read rM_st rM_undone rM_kept iM_undos iM_images rM_fresher iM_fresherSize iM_scale iM_night rM_heardRow rM_cutRow iM_breaths iM_cutMany iM_allBreaths rM_trial rM_words iM_fewestBreaths iM_orderMany iM_orderSum iM_leastOrder rM_often iM_setMany iM_someOf iM_allOf iM_allWeight iM_enoughWeight iM_worthSum iM_firstRest iM_leastDrawn x_2164 b_iM_taped b_iM_size b_iM_end b_iM_failed b_iM_hasCourt b_iM_undos b_iM_images b_iM_scale b_iM_breaths b_iM_cutMany (by assumption) (by assumption) ⟨dx_2164.1, dx_2164.2⟩) (cwV 1 hts (wd_V wd_882 wd_883 wd_884 wd_5 (wd_c wd_885)) rfl rfl rfl dv_yX7_why_1 ⟨Nat.le_of_ble_eq_true rfl, Nat.le_of_ble_eq_true rfl⟩) ⟨Pw.fb, recvX7 hK hP (q0 := 0) rfl, fun U hU hW => Pw.to (hP.ms _ hMs) (hD.ms _ hMs) (hK.ms [true, false, false] rfl) hE hS hFc hU hW⟩ rfl rfl hl.1 rfl (lv_room (Nat.le_of_ble_eq_true rfl)) dX7_night_12 ⟨Nat.le_of_ble_eq_true rfl, Nat.le_of_ble_eq_true rfl⟩) hS (fun q _ h => hFc q h) hFc (fun r u t H locs ht hvm hw hB hz1 hk1 hS => ?_)
  have hru9 := hw.2
  have hw := hw.1
  obtain ⟨hP, hD⟩ := Bw.goN (ws' := [(oc7 oM x_2162 rM_tape iM_taped iM_size iM_at iM_end iM_token iM_whole iM_nameSize iM_fault iM_place x_2163 rM_letters iM_failed iM_hasCourt rM_r rM_fresh rM_told rM_read rM_st rM_undone rM_kept iM_undos iM_images rM_fresher iM_fresherSize iM_scale iM_night rM_heardRow rM_cutRow iM_breaths iM_cutMany iM_allBreaths rM_trial rM_words iM_fewestBreaths iM_orderMany iM_orderSum iM_leastOrder rM_often iM_setMany iM_someOf iM_allOf iM_allWeight iM_enoughWeight iM_worthSum iM_firstRest iM_leastDrawn), (arI rM_r kM_r 287 fM_r), (arI rM_told kM_told 90 fM_told), (arI rM_st kM_st 90 fM_st)]) hB rfl ht hP hD _ hMs hk1 hFc rfl
  clear hz1 hk1 hvm ht hB hMs
  rcases hw.2 with ⟨rfl, hc_2165⟩ | ⟨rfl, hc_2165⟩ | ⟨rfl, hc_2165⟩
  · skip
    have hG := hG.trans (lt_eq hru9.symm)
    have hG := hG.trans (if_pos rfl)
    refine lv_istore_n (lv' := [(3, .int 0), (0, .ref oM), (1, .int p0), (2, .int p1)]) hx hb dX7_night_15 rfl hl (by decide) rfl (fun ls hl => ?_)
    refine lv_iload_n hx hb dX7_night_16 rfl (lv_at hl 0 rfl) ?_
    refine lv_if_eq (tgt := 29) hx hb dX7_night_17 (by decide) (fun _ => ?_) (fun c => absurd c (by decide))
    refine lv_aload_n hx hb dX7_night_29 rfl (lv_at hl 1 rfl) ?_
    refine lv_iload_n hx hb dX7_night_30 rfl (lv_at hl 2 rfl) ?_
    have hFc := va_freeI hD hS hA
    refine va_calli (va_runV (As := [.int p0]) (rest := []) ⟨hx, hb, hml, hown, hts⟩ (tX7_throneAt l dC dI _ oM x_2162 rM_tape iM_taped iM_size iM_at iM_end iM_token iM_whole iM_nameSize iM_fault iM_place x_2163 rM_letters iM_failed iM_hasCourt rM_r fM_r kM_r rM_fresh rM_told fM_told kM_told rM_read rM_st fM_st kM_st rM_undone rM_kept iM_undos iM_images rM_fresher iM_fresherSize iM_scale iM_night rM_heardRow rM_cutRow iM_breaths iM_cutMany iM_allBreaths rM_trial rM_words iM_fewestBreaths iM_orderMany iM_orderSum iM_leastOrder rM_often iM_setMany iM_someOf iM_allOf iM_allWeight iM_enoughWeight iM_worthSum iM_firstRest iM_leastDrawn p0 b_iM_taped b_iM_size b_iM_end b_iM_failed b_iM_hasCourt b_iM_undos b_iM_images b_iM_scale b_iM_breaths b_iM_cutMany (by assumption) (by assumption) (by assumption) (by assumption) (by assumption) ⟨hc_2165.2.1, hc_2165.2.2⟩) (cwV 1 hts (wd_V wd_1100 wd_1101 wd_1102 wd_5 (wd_c wd_1103)) rfl rfl rfl dv_yX7_throneAt_1 ⟨Nat.le_of_ble_eq_true rfl, Nat.le_of_ble_eq_true rfl⟩) ⟨Pw.fb, recvX7 hK hP (q0 := 0) rfl, fun U hU hW => Pw.to hP hD hK hE hS hFc hU hW⟩ rfl rfl hl.1 rfl (lv_room (Nat.le_of_ble_eq_true rfl)) dX7_night_31 ⟨Nat.le_of_ble_eq_true rfl, Nat.le_of_ble_eq_true rfl⟩) hS (fun q _ h => hFc q h) hFc (fun r u t H locs ht hvm hw hB hz1 hk1 hS => ?_)
    have hru9 := hw.2
    have hw := hw.1
    refine ex_1_2 hB (fun x_2168 b_x_2168 e_x_2168_0 hB => ?_)
    obtain ⟨hP, hD⟩ := Bw.goA (ws' := [(oc7 oM x_2162 rM_tape iM_taped iM_size iM_at iM_end iM_token iM_whole iM_nameSize iM_fault iM_place x_2163 rM_letters iM_failed iM_hasCourt rM_r rM_fresh rM_told rM_read rM_st rM_undone rM_kept iM_undos iM_images rM_fresher iM_fresherSize iM_scale x_2168 rM_heardRow rM_cutRow iM_breaths iM_cutMany iM_allBreaths rM_trial rM_words iM_fewestBreaths iM_orderMany iM_orderSum iM_leastOrder rM_often iM_setMany iM_someOf iM_allOf iM_allWeight iM_enoughWeight iM_worthSum iM_firstRest iM_leastDrawn), (arI rM_r kM_r 287 fM_r), (arI rM_told kM_told 90 fM_told), (arI rM_st kM_st 90 fM_st)]) hB rfl ht hFc rfl
    clear hz1 hk1 hvm ht hB
    rw [← hru9] at e_x_2168_0
    obtain ⟨x_2169, rfl⟩ : ∃ z, z = r := ⟨_, rfl⟩
    have hG := hG.trans (un2_eq e_x_2168_0)
    obtain ⟨y_2170, ey_2170⟩ : ∃ z : Int64, z = (x_2169 : Int32).toInt64 := ⟨_, rfl⟩
    have hG := hG.trans (lt_eq ey_2170)
    refine lv_i2l (v := y_2170) hx hb dX7_night_34 ey_2170.symm ?_
    refine lv_aload_n hx hb dX7_night_35 rfl (lv_at hl 1 rfl) ?_
    refine va_get (D := (dC, dI)) (ci := 7) (v := .int iM_scale) (C := RX7) (T := TX7) (N := 48) hx hb hts inX7 hown hK hP 0 rfl rfl 26 (by decide) (hts _ wd_163) (fun _ h9 => h9) rfl dX7_night_36 ?_
    obtain ⟨y_2171, ey_2171⟩ : ∃ z : Int64, z = (iM_scale : Int32).toInt64 := ⟨_, rfl⟩
    have hG := hG.trans (lt_eq ey_2171)
    refine lv_i2l (v := y_2171) hx hb dX7_night_39 ey_2171.symm ?_
    have nz_y_2171 := i2l_nz ey_2171 (by omega)
    refine lv_iload_n hx hb dX7_night_40 rfl (lv_at hl 3 rfl) ?_
    have hFc : ∀ q, va_A [] _ q → A q := fun q h => hA q (Nat.le_trans hS.1 (va_nilA h))
    refine va_calll (va_runS (As := [.long y_2170, .long y_2171, .int p1]) (rest := []) ⟨hx, hb, hml, hown, hts⟩ (tX7_lowest l dC dI _ y_2170 y_2171 p1 nz_y_2171) (va_cwS 3 hts (wd_S wd_655 wd_656 wd_5 (wd_c wd_657)) rfl rfl rfl ds_yX7_lowest_3 ⟨Nat.le_of_ble_eq_true rfl, Nat.le_of_ble_eq_true rfl⟩) ⟨Pw.fb, fun U hU hW => Pn.to hK hE hS hA hU hW⟩ rfl rfl hl.1 rfl (lv_room (Nat.le_of_ble_eq_true rfl)) dX7_night_41 ⟨Nat.le_of_ble_eq_true rfl, Nat.le_of_ble_eq_true rfl⟩) hS (fun q _ h => hFc q h) hFc (fun r u t H locs ht hvm hw hB hz1 hk1 hS => ?_)
    obtain ⟨hP, hD, hK⟩ := Bw.same ht hvm hP hD hK hk1 hFc
    clear hz1 hk1 hvm ht hB
    have hq9 := hw.2
    have hw := hw.1
    obtain ⟨y_2172, rfl⟩ : ∃ z, z = r := ⟨_, rfl⟩
    have hq_y_2172 := hq9
    have hG := hG.trans (lt_eq hq_y_2172.symm)
    exact wq_l hx hb hr (cL y_2172) ⟨⟨trivial, trivial⟩, (cL_of y_2172)⟩ (fun t ht hW => ⟨x_2162, x_2163, x_2168, (om_ccbdd137 b_x_2168.2 b_x_2168.1), (cL_tup hG), Bw.to hP hD hK ht hW⟩) hS dX7_night_44 hlocks
  · skip
    have hG := hG.trans (lt_eq hru9.symm)
    have hG := hG.trans (if_neg (by decide))
    have hG := hG.trans (if_pos rfl)
    refine lv_istore_n (lv' := [(3, .int 1), (0, .ref oM), (1, .int p0), (2, .int p1)]) hx hb dX7_night_15 rfl hl (by decide) rfl (fun ls hl => ?_)
    refine lv_iload_n hx hb dX7_night_16 rfl (lv_at hl 0 rfl) ?_
    refine lv_if_eq (tgt := 29) hx hb dX7_night_17 (by decide) (fun c => absurd c (by decide)) (fun _ => ?_)
    refine lv_aload_n hx hb dX7_night_20 rfl (lv_at hl 1 rfl) ?_
    refine lv_iload_n hx hb dX7_night_21 rfl (lv_at hl 0 rfl) ?_
    have hMs := ml_of hD [true, false, false, false] (wc := [(oc7 oM x_2162 rM_tape iM_taped iM_size iM_at iM_end iM_token iM_whole iM_nameSize iM_fault iM_place x_2163 rM_letters iM_failed iM_hasCourt rM_r rM_fresh rM_told rM_read rM_st rM_undone rM_kept iM_undos iM_images rM_fresher iM_fresherSize iM_scale iM_night rM_heardRow rM_cutRow iM_breaths iM_cutMany iM_allBreaths rM_trial rM_words iM_fewestBreaths iM_orderMany iM_orderSum iM_leastOrder rM_often iM_setMany iM_someOf iM_allOf iM_allWeight iM_enoughWeight iM_worthSum iM_firstRest iM_leastDrawn)]) rfl
    have hFc := va_freeM hD hS hA _ hMs
    refine va_calli (va_runV (As := [.int 1]) (rest := []) ⟨hx, hb, hml, hown, hts⟩ (tX7_no l dC dI _ oM x_2162 rM_tape iM_taped iM_size iM_at iM_end iM_token iM_whole iM_nameSize iM_fault iM_place x_2163 rM_letters iM_failed iM_hasCourt rM_r rM_fresh rM_told rM_read rM_st rM_undone rM_kept iM_undos iM_images rM_fresher iM_fresherSize iM_scale iM_night rM_heardRow rM_cutRow iM_breaths iM_cutMany iM_allBreaths rM_trial rM_words iM_fewestBreaths iM_orderMany iM_orderSum iM_leastOrder rM_often iM_setMany iM_someOf iM_allOf iM_allWeight iM_enoughWeight iM_worthSum iM_firstRest iM_leastDrawn 1 b_iM_taped b_iM_size b_iM_end b_iM_failed b_iM_hasCourt b_iM_undos b_iM_images b_iM_scale b_iM_breaths b_iM_cutMany) (cwV 1 hts (wd_V wd_396 wd_397 wd_398 wd_5 (wd_c wd_399)) rfl rfl rfl dv_yX7_no_1 ⟨Nat.le_of_ble_eq_true rfl, Nat.le_of_ble_eq_true rfl⟩) ⟨Pw.fb, recvX7 hK hP (q0 := 0) rfl, fun U hU hW => Pw.to (hP.ms _ hMs) (hD.ms _ hMs) (hK.ms [false, false, false] rfl) hE hS hFc hU hW⟩ rfl rfl hl.1 rfl (lv_room (Nat.le_of_ble_eq_true rfl)) dX7_night_22 ⟨Nat.le_of_ble_eq_true rfl, Nat.le_of_ble_eq_true rfl⟩) hS (fun q _ h => hFc q h) hFc (fun r u t H locs ht hvm hw hB hz1 hk1 hS => ?_)
    have hru9 := hw.2
    have hw := hw.1
    refine ex_1_1 hB (fun x_2174 e_x_2174_0 hB => ?_)
    obtain ⟨hP, hD⟩ := Bw.goN (ws' := [(oc7 oM x_2162 rM_tape iM_taped iM_size iM_at iM_end iM_token iM_whole iM_nameSize iM_fault iM_place x_2174 rM_letters iM_failed iM_hasCourt rM_r rM_fresh rM_told rM_read rM_st rM_undone rM_kept iM_undos iM_images rM_fresher iM_fresherSize iM_scale iM_night rM_heardRow rM_cutRow iM_breaths iM_cutMany iM_allBreaths rM_trial rM_words iM_fewestBreaths iM_orderMany iM_orderSum iM_leastOrder rM_often iM_setMany iM_someOf iM_allOf iM_allWeight iM_enoughWeight iM_worthSum iM_firstRest iM_leastDrawn), (arI rM_r kM_r 287 fM_r), (arI rM_told kM_told 90 fM_told), (arI rM_st kM_st 90 fM_st)]) hB rfl ht hP hD _ hMs hk1 hFc rfl
    clear hz1 hk1 hvm ht hB hMs
    rw [← hru9] at e_x_2174_0
    obtain ⟨x_2175, rfl⟩ : ∃ z, z = r := ⟨_, rfl⟩
    have hG := hG.trans (un2_eq e_x_2174_0)
    obtain ⟨y_2176, ey_2176⟩ : ∃ z : Int64, z = (x_2175 : Int32).toInt64 := ⟨_, rfl⟩
    have hG := hG.trans (lt_eq ey_2176)
    refine lv_i2l (v := y_2176) hx hb dX7_night_25 ey_2176.symm ?_
    refine lv_goto (tgt := 44) hx hb dX7_night_26 (by decide) ?_
    exact wq_l hx hb hr (cL y_2176) ⟨⟨trivial, trivial⟩, (cL_of y_2176)⟩ (fun t ht hW => ⟨x_2162, x_2174, iM_night, hnt, (cL_tup hG), Bw.to hP hD hK ht hW⟩) hS dX7_night_44 hlocks
  · skip
    have hG := hG.trans (lt_eq hru9.symm)
    have hG := hG.trans (if_neg (by decide))
    have hG := hG.trans (if_neg (by decide))
    refine lv_istore_n (lv' := [(3, .int 2), (0, .ref oM), (1, .int p0), (2, .int p1)]) hx hb dX7_night_15 rfl hl (by decide) rfl (fun ls hl => ?_)
    refine lv_iload_n hx hb dX7_night_16 rfl (lv_at hl 0 rfl) ?_
    refine lv_if_eq (tgt := 29) hx hb dX7_night_17 (by decide) (fun c => absurd c (by decide)) (fun _ => ?_)
    refine lv_aload_n hx hb dX7_night_20 rfl (lv_at hl 1 rfl) ?_
    refine lv_iload_n hx hb dX7_night_21 rfl (lv_at hl 0 rfl) ?_
    have hMs := ml_of hD [true, false, false, false] (wc := [(oc7 oM x_2162 rM_tape iM_taped iM_size iM_at iM_end iM_token iM_whole iM_nameSize iM_fault iM_place x_2163 rM_letters iM_failed iM_hasCourt rM_r rM_fresh rM_told rM_read rM_st rM_undone rM_kept iM_undos iM_images rM_fresher iM_fresherSize iM_scale iM_night rM_heardRow rM_cutRow iM_breaths iM_cutMany iM_allBreaths rM_trial rM_words iM_fewestBreaths iM_orderMany iM_orderSum iM_leastOrder rM_often iM_setMany iM_someOf iM_allOf iM_allWeight iM_enoughWeight iM_worthSum iM_firstRest iM_leastDrawn)]) rfl
    have hFc := va_freeM hD hS hA _ hMs
    refine va_calli (va_runV (As := [.int 2]) (rest := []) ⟨hx, hb, hml, hown, hts⟩ (tX7_no l dC dI _ oM x_2162 rM_tape iM_taped iM_size iM_at iM_end iM_token iM_whole iM_nameSize iM_fault iM_place x_2163 rM_letters iM_failed iM_hasCourt rM_r rM_fresh rM_told rM_read rM_st rM_undone rM_kept iM_undos iM_images rM_fresher iM_fresherSize iM_scale iM_night rM_heardRow rM_cutRow iM_breaths iM_cutMany iM_allBreaths rM_trial rM_words iM_fewestBreaths iM_orderMany iM_orderSum iM_leastOrder rM_often iM_setMany iM_someOf iM_allOf iM_allWeight iM_enoughWeight iM_worthSum iM_firstRest iM_leastDrawn 2 b_iM_taped b_iM_size b_iM_end b_iM_failed b_iM_hasCourt b_iM_undos b_iM_images b_iM_scale b_iM_breaths b_iM_cutMany) (cwV 1 hts (wd_V wd_396 wd_397 wd_398 wd_5 (wd_c wd_399)) rfl rfl rfl dv_yX7_no_1 ⟨Nat.le_of_ble_eq_true rfl, Nat.le_of_ble_eq_true rfl⟩) ⟨Pw.fb, recvX7 hK hP (q0 := 0) rfl, fun U hU hW => Pw.to (hP.ms _ hMs) (hD.ms _ hMs) (hK.ms [false, false, false] rfl) hE hS hFc hU hW⟩ rfl rfl hl.1 rfl (lv_room (Nat.le_of_ble_eq_true rfl)) dX7_night_22 ⟨Nat.le_of_ble_eq_true rfl, Nat.le_of_ble_eq_true rfl⟩) hS (fun q _ h => hFc q h) hFc (fun r u t H locs ht hvm hw hB hz1 hk1 hS => ?_)
    have hru9 := hw.2
    have hw := hw.1
    refine ex_1_1 hB (fun x_2178 e_x_2178_0 hB => ?_)
    obtain ⟨hP, hD⟩ := Bw.goN (ws' := [(oc7 oM x_2162 rM_tape iM_taped iM_size iM_at iM_end iM_token iM_whole iM_nameSize iM_fault iM_place x_2178 rM_letters iM_failed iM_hasCourt rM_r rM_fresh rM_told rM_read rM_st rM_undone rM_kept iM_undos iM_images rM_fresher iM_fresherSize iM_scale iM_night rM_heardRow rM_cutRow iM_breaths iM_cutMany iM_allBreaths rM_trial rM_words iM_fewestBreaths iM_orderMany iM_orderSum iM_leastOrder rM_often iM_setMany iM_someOf iM_allOf iM_allWeight iM_enoughWeight iM_worthSum iM_firstRest iM_leastDrawn), (arI rM_r kM_r 287 fM_r), (arI rM_told kM_told 90 fM_told), (arI rM_st kM_st 90 fM_st)]) hB rfl ht hP hD _ hMs hk1 hFc rfl
    clear hz1 hk1 hvm ht hB hMs
    rw [← hru9] at e_x_2178_0
    obtain ⟨x_2179, rfl⟩ : ∃ z, z = r := ⟨_, rfl⟩
    have hG := hG.trans (un2_eq e_x_2178_0)
    obtain ⟨y_2180, ey_2180⟩ : ∃ z : Int64, z = (x_2179 : Int32).toInt64 := ⟨_, rfl⟩
    have hG := hG.trans (lt_eq ey_2180)
    refine lv_i2l (v := y_2180) hx hb dX7_night_25 ey_2180.symm ?_
    refine lv_goto (tgt := 44) hx hb dX7_night_26 (by decide) ?_
    exact wq_l hx hb hr (cL y_2180) ⟨⟨trivial, trivial⟩, (cL_of y_2180)⟩ (fun t ht hW => ⟨x_2162, x_2178, iM_night, hnt, (cL_tup hG), Bw.to hP hD hK ht hW⟩) hS dX7_night_44 hlocks
set_option maxHeartbeats 4000000 in
set_option maxRecDepth 100000 in
theorem tX7_settles (l : Launch) (dC : Nat → ClassId) (dI : Nat → Nat → Nat) (sz : Nat) (oM : Nat) (iM_thrown : Int32) (rM_tape : Nat) (iM_taped : Int32) (iM_size : Int32) (iM_at : Int32) (iM_end : Int32) (iM_token : Int32) (iM_whole : Int32) (iM_nameSize : Int32) (iM_fault : Int32) (iM_place : Int32) (iM_trouble : Int32) (rM_letters : Nat) (iM_failed : Int32) (iM_hasCourt : Int32) (rM_r : Nat) (fM_r : Nat → Int32) (kM_r : ClassId) (rM_fresh : Nat) (rM_told : Nat) (fM_told : Nat → Int32) (kM_told : ClassId) (rM_read : Nat) (rM_st : Nat) (fM_st : Nat → Int32) (kM_st : ClassId) (rM_undone : Nat) (rM_kept : Nat) (iM_undos : Int32) (iM_images : Int32) (rM_fresher : Nat) (iM_fresherSize : Int32) (iM_scale : Int32) (iM_night : Int32) (rM_heardRow : Nat) (rM_cutRow : Nat) (iM_breaths : Int32) (iM_cutMany : Int32) (iM_allBreaths : Int32) (rM_trial : Nat) (rM_words : Nat) (iM_fewestBreaths : Int32) (iM_orderMany : Int32) (iM_orderSum : Int32) (iM_leastOrder : Int32) (rM_often : Nat) (iM_setMany : Int32) (iM_someOf : Int32) (iM_allOf : Int32) (iM_allWeight : Int64) (iM_enoughWeight : Int64) (iM_worthSum : Int64) (iM_firstRest : Int32) (iM_leastDrawn : Int32) (b_iM_taped : 0 ≤ iM_taped.toInt ∧ iM_taped.toInt ≤ 900) (b_iM_size : 0 ≤ iM_size.toInt ∧ iM_size.toInt ≤ 900) (b_iM_end : 0 ≤ iM_end.toInt ∧ iM_end.toInt ≤ 900) (b_iM_failed : 0 ≤ iM_failed.toInt ∧ iM_failed.toInt ≤ 1) (b_iM_hasCourt : 0 ≤ iM_hasCourt.toInt ∧ iM_hasCourt.toInt ≤ 1) (b_iM_undos : 0 ≤ iM_undos.toInt ∧ iM_undos.toInt ≤ 16) (b_iM_images : 0 ≤ iM_images.toInt ∧ iM_images.toInt ≤ 3) (b_iM_scale : 1 ≤ iM_scale.toInt ∧ iM_scale.toInt ≤ 1296) (b_iM_breaths : 0 ≤ iM_breaths.toInt ∧ iM_breaths.toInt ≤ 399) (b_iM_cutMany : 0 ≤ iM_cutMany.toInt ∧ iM_cutMany.toInt ≤ 399) (r_R : ROk fM_r) (r_C : iM_hasCourt.toInt ≤ 0 ∨ (1 ≤ (fM_r 1).toInt ∧ 0 ≤ (fM_r 6).toInt ∧ (fM_r 6).toInt < (fM_r 1).toInt)) (r_st : RowOk fM_r fM_st) (r_told : RowOk fM_r fM_told) (r_wst : WorOk fM_st) (hnt : iM_night.toInt = -1) : Met l yX7_settles (Cond.code yX7_settles cX7_settles 2 (some .int) :: wG) ({ frames := 23, cells := 0, slots := 0, locals := 607 }) (va_Pc [.ref oM] (Pw dC dI sz [(oc7 oM iM_thrown rM_tape iM_taped iM_size iM_at iM_end iM_token iM_whole iM_nameSize iM_fault iM_place iM_trouble rM_letters iM_failed iM_hasCourt rM_r rM_fresh rM_told rM_read rM_st rM_undone rM_kept iM_undos iM_images rM_fresher iM_fresherSize iM_scale iM_night rM_heardRow rM_cutRow iM_breaths iM_cutMany iM_allBreaths rM_trial rM_words iM_fewestBreaths iM_orderMany iM_orderSum iM_leastOrder rM_often iM_setMany iM_someOf iM_allOf iM_allWeight iM_enoughWeight iM_worthSum iM_firstRest iM_leastDrawn), (arI rM_r kM_r 287 fM_r), (arI rM_told kM_told 90 fM_told), (arI rM_st kM_st 90 fM_st)] [(kM_r, .int), (kM_told, .int), (kM_st, .int)])) (va_Qi (fun (r : Int32) (u : Nat) => (True ∧ True) ∧ r = Int32.ofNat u) (fun (u : Nat) (t : State) => ∃ (niM_thrown : Int32) (niM_trouble : Int32) (niM_night : Int32), (niM_night.toInt = -1) ∧ (PX7_settles iM_hasCourt fM_r fM_told fM_st iM_scale iM_night = (Int32.ofNat u, niM_thrown, niM_trouble, niM_night)) ∧ Bw dC dI (va_A [(oc7 oM iM_thrown rM_tape iM_taped iM_size iM_at iM_end iM_token iM_whole iM_nameSize iM_fault iM_place iM_trouble rM_letters iM_failed iM_hasCourt rM_r rM_fresh rM_told rM_read rM_st rM_undone rM_kept iM_undos iM_images rM_fresher iM_fresherSize iM_scale iM_night rM_heardRow rM_cutRow iM_breaths iM_cutMany iM_allBreaths rM_trial rM_words iM_fewestBreaths iM_orderMany iM_orderSum iM_leastOrder rM_often iM_setMany iM_someOf iM_allOf iM_allWeight iM_enoughWeight iM_worthSum iM_firstRest iM_leastDrawn), (arI rM_r kM_r 287 fM_r), (arI rM_told kM_told 90 fM_told), (arI rM_st kM_st 90 fM_st)] sz) [(oc7 oM niM_thrown rM_tape iM_taped iM_size iM_at iM_end iM_token iM_whole iM_nameSize iM_fault iM_place niM_trouble rM_letters iM_failed iM_hasCourt rM_r rM_fresh rM_told rM_read rM_st rM_undone rM_kept iM_undos iM_images rM_fresher iM_fresherSize iM_scale niM_night rM_heardRow rM_cutRow iM_breaths iM_cutMany iM_allBreaths rM_trial rM_words iM_fewestBreaths iM_orderMany iM_orderSum iM_leastOrder rM_often iM_setMany iM_someOf iM_allOf iM_allWeight iM_enoughWeight iM_worthSum iM_firstRest iM_leastDrawn), (arI rM_r kM_r 287 fM_r), (arI rM_told kM_told 90 fM_told), (arI rM_st kM_st 90 fM_st)] [(kM_r, .int), (kM_told, .int), (kM_st, .int)] t) (va_A [(oc7 oM iM_thrown rM_tape iM_taped iM_size iM_at iM_end iM_token iM_whole iM_nameSize iM_fault iM_place iM_trouble rM_letters iM_failed iM_hasCourt rM_r rM_fresh rM_told rM_read rM_st rM_undone rM_kept iM_undos iM_images rM_fresher iM_fresherSize iM_scale iM_night rM_heardRow rM_cutRow iM_breaths iM_cutMany iM_allBreaths rM_trial rM_words iM_fewestBreaths iM_orderMany iM_orderSum iM_leastOrder rM_often iM_setMany iM_someOf iM_allOf iM_allWeight iM_enoughWeight iM_worthSum iM_firstRest iM_leastDrawn), (arI rM_r kM_r 287 fM_r), (arI rM_told kM_told 90 fM_told), (arI rM_st kM_st 90 fM_st)] sz)) 0 0 (va_A [(oc7 oM iM_thrown rM_tape iM_taped iM_size iM_at iM_end iM_token iM_whole iM_nameSize iM_fault iM_place iM_trouble rM_letters iM_failed iM_hasCourt rM_r rM_fresh rM_told rM_read rM_st rM_undone rM_kept iM_undos iM_images rM_fresher iM_fresherSize iM_scale iM_night rM_heardRow rM_cutRow iM_breaths iM_cutMany iM_allBreaths rM_trial rM_words iM_fewestBreaths iM_orderMany iM_orderSum iM_leastOrder rM_often iM_setMany iM_someOf iM_allOf iM_allWeight iM_enoughWeight iM_worthSum iM_firstRest iM_leastDrawn), (arI rM_r kM_r 287 fM_r), (arI rM_told kM_told 90 fM_told), (arI rM_st kM_st 90 fM_st)] sz) := by
  refine Met.ofW (cc := cX7_settles) (maxL := 2) (ret := (some .int)) pnX7 rfl ?_
  intro p e s m args below meth c s₁ B hml hv
  obtain ⟨rfl, hsz, hP, hK, hD0, hE⟩ := hv
  have hx := B.exec
  have hb := B.bytes
  have hr := B.returns
  have hts : ∀ w ∈ wG, w.before ([.ref oM] : List Value).toArray s = true := fun w h => atoms_spec (ws := Cond.code yX7_settles cX7_settles 2 (some .int) :: wG) B.pre w (List.mem_cons_of_mem _ h)
  have hown : s.vm.findClass RX7 = some m.cls := own_of B.named rfl
  have hlocks := B.notSynchronized
  subst hsz
  have hD := hD0.self (sz := s.heap.size)
  generalize hAe : va_A [(oc7 oM iM_thrown rM_tape iM_taped iM_size iM_at iM_end iM_token iM_whole iM_nameSize iM_fault iM_place iM_trouble rM_letters iM_failed iM_hasCourt rM_r rM_fresh rM_told rM_read rM_st rM_undone rM_kept iM_undos iM_images rM_fresher iM_fresherSize iM_scale iM_night rM_heardRow rM_cutRow iM_breaths iM_cutMany iM_allBreaths rM_trial rM_words iM_fewestBreaths iM_orderMany iM_orderSum iM_leastOrder rM_often iM_setMany iM_someOf iM_allOf iM_allWeight iM_enoughWeight iM_worthSum iM_firstRest iM_leastDrawn), (arI rM_r kM_r 287 fM_r), (arI rM_told kM_told 90 fM_told), (arI rM_st kM_st 90 fM_st)] s.heap.size = A at hD hE ⊢
  have hA : ∀ q : Nat, s.heap.size ≤ q → A q := fun q h => by rw [← hAe]; exact Or.inr h
  have hS : va_S A s.heap s.heap [] := va_S.rf
  have hl := lv_entry ([.ref oM]) (n := 2) (Nat.le_of_ble_eq_true rfl)
  rw [lg_entry_eq]
  generalize (lg_sl ([.ref oM]) ++ List.replicate (2 - (lg_sl ([.ref oM])).length) Slot.unset).toArray = ls at hl ⊢
  have hl : lv_has ls 2 [(0, .ref oM)] := hl
  have hG := PX7_settles_eq iM_hasCourt fM_r fM_told fM_st iM_scale iM_night
  have s_slips := r_R.slips
  have s_nodes := r_R.nodes
  have s_uns := r_R.uns
  refine lv_aload_n hx hb dX7_settles_0 rfl (lv_at hl 0 rfl) ?_
  have hMs := ml_of hD [true, false, false, false] (wc := [(oc7 oM iM_thrown rM_tape iM_taped iM_size iM_at iM_end iM_token iM_whole iM_nameSize iM_fault iM_place iM_trouble rM_letters iM_failed iM_hasCourt rM_r rM_fresh rM_told rM_read rM_st rM_undone rM_kept iM_undos iM_images rM_fresher iM_fresherSize iM_scale iM_night rM_heardRow rM_cutRow iM_breaths iM_cutMany iM_allBreaths rM_trial rM_words iM_fewestBreaths iM_orderMany iM_orderSum iM_leastOrder rM_often iM_setMany iM_someOf iM_allOf iM_allWeight iM_enoughWeight iM_worthSum iM_firstRest iM_leastDrawn)]) rfl
  have hFc := va_freeM hD hS hA _ hMs
  refine va_callv (va_runV (As := []) (rest := []) ⟨hx, hb, hml, hown, hts⟩ (tX7_good l dC dI _ oM iM_thrown rM_tape iM_taped iM_size iM_at iM_end iM_token iM_whole iM_nameSize iM_fault iM_place iM_trouble rM_letters iM_failed iM_hasCourt rM_r rM_fresh rM_told rM_read rM_st rM_undone rM_kept iM_undos iM_images rM_fresher iM_fresherSize iM_scale iM_night rM_heardRow rM_cutRow iM_breaths iM_cutMany iM_allBreaths rM_trial rM_words iM_fewestBreaths iM_orderMany iM_orderSum iM_leastOrder rM_often iM_setMany iM_someOf iM_allOf iM_allWeight iM_enoughWeight iM_worthSum iM_firstRest iM_leastDrawn b_iM_taped b_iM_size b_iM_end b_iM_failed b_iM_hasCourt b_iM_undos b_iM_images b_iM_scale b_iM_breaths b_iM_cutMany) (cwV 0 hts (wd_V wd_388 wd_389 wd_390 wd_5 (wd_c wd_391)) rfl rfl rfl dv_yX7_good_0 ⟨Nat.le_of_ble_eq_true rfl, Nat.le_of_ble_eq_true rfl⟩) ⟨Pw.fb, recvX7 hK hP (q0 := 0) rfl, fun U hU hW => Pw.to (hP.ms _ hMs) (hD.ms _ hMs) (hK.ms [false, false, false] rfl) hE hS hFc hU hW⟩ rfl rfl hl.1 rfl (lv_room (Nat.le_of_ble_eq_true rfl)) dX7_settles_1 ⟨Nat.le_of_ble_eq_true rfl, Nat.le_of_ble_eq_true rfl⟩) hS (fun q _ h => hFc q h) hFc (fun u t H locs ht hvm hw hB hz1 hk1 hS => ?_)
  refine ex_2_3 hB (fun x_2199 x_2200 b_x_2199 b_x_2200 e_x_2199_0 hB => ?_)
  obtain ⟨hP, hD⟩ := Bw.goN (ws' := [(oc7 oM x_2199 rM_tape iM_taped iM_size iM_at iM_end iM_token iM_whole iM_nameSize iM_fault iM_place x_2200 rM_letters iM_failed iM_hasCourt rM_r rM_fresh rM_told rM_read rM_st rM_undone rM_kept iM_undos iM_images rM_fresher iM_fresherSize iM_scale iM_night rM_heardRow rM_cutRow iM_breaths iM_cutMany iM_allBreaths rM_trial rM_words iM_fewestBreaths iM_orderMany iM_orderSum iM_leastOrder rM_often iM_setMany iM_someOf iM_allOf iM_allWeight iM_enoughWeight iM_worthSum iM_firstRest iM_leastDrawn), (arI rM_r kM_r 287 fM_r), (arI rM_told kM_told 90 fM_told), (arI rM_st kM_st 90 fM_st)]) hB rfl ht hP hD _ hMs hk1 hFc rfl
  clear hz1 hk1 hvm ht hB hMs
  have hG := hG.trans (un2_eq e_x_2199_0)
  refine lv_aload_n hx hb dX7_settles_4 rfl (lv_at hl 0 rfl) ?_
  rcases (id r_C) with r_C0 | r_C1
  · skip
    refine va_get (D := (dC, dI)) (ci := 7) (v := .int iM_hasCourt) (C := RX7) (T := TX7) (N := 48) hx hb hts inX7 hown hK hP 0 rfl rfl 14 (by decide) (hts _ wd_385) (fun _ h9 => h9) rfl dX7_settles_5 ?_
    refine lv_if_ne (tgt := 17) hx hb dX7_settles_8 (by decide) (fun c_2201 => ?_) (fun c_2201 => ?_)
    · skip
      have hG := hG.trans (if_neg c_2201)
      have gc_2201 := ti_ne c_2201 rfl kc_0
      exact (om_c9ba8b89 gc_2201 r_C0 b_iM_hasCourt.1).elim
    · skip
      have hG := hG.trans (if_pos c_2201)
      have gc_2201 := ti_eq c_2201 rfl kc_0
      refine lv_aload_n hx hb dX7_settles_11 rfl (lv_at hl 0 rfl) ?_
      refine lv_iconst (v := 1) hx hb dX7_settles_12 (by decide) ?_
      have hMs := ml_of hD [true, false, false, false] (wc := [(oc7 oM x_2199 rM_tape iM_taped iM_size iM_at iM_end iM_token iM_whole iM_nameSize iM_fault iM_place x_2200 rM_letters iM_failed iM_hasCourt rM_r rM_fresh rM_told rM_read rM_st rM_undone rM_kept iM_undos iM_images rM_fresher iM_fresherSize iM_scale iM_night rM_heardRow rM_cutRow iM_breaths iM_cutMany iM_allBreaths rM_trial rM_words iM_fewestBreaths iM_orderMany iM_orderSum iM_leastOrder rM_often iM_setMany iM_someOf iM_allOf iM_allWeight iM_enoughWeight iM_worthSum iM_firstRest iM_leastDrawn)]) rfl
      have hFc := va_freeM hD hS hA _ hMs
      refine va_calli (va_runV (As := [.int 1]) (rest := []) ⟨hx, hb, hml, hown, hts⟩ (tX7_no l dC dI _ oM x_2199 rM_tape iM_taped iM_size iM_at iM_end iM_token iM_whole iM_nameSize iM_fault iM_place x_2200 rM_letters iM_failed iM_hasCourt rM_r rM_fresh rM_told rM_read rM_st rM_undone rM_kept iM_undos iM_images rM_fresher iM_fresherSize iM_scale iM_night rM_heardRow rM_cutRow iM_breaths iM_cutMany iM_allBreaths rM_trial rM_words iM_fewestBreaths iM_orderMany iM_orderSum iM_leastOrder rM_often iM_setMany iM_someOf iM_allOf iM_allWeight iM_enoughWeight iM_worthSum iM_firstRest iM_leastDrawn 1 b_iM_taped b_iM_size b_iM_end b_iM_failed b_iM_hasCourt b_iM_undos b_iM_images b_iM_scale b_iM_breaths b_iM_cutMany) (cwV 1 hts (wd_V wd_396 wd_397 wd_398 wd_5 (wd_c wd_399)) rfl rfl rfl dv_yX7_no_1 ⟨Nat.le_of_ble_eq_true rfl, Nat.le_of_ble_eq_true rfl⟩) ⟨Pw.fb, recvX7 hK hP (q0 := 0) rfl, fun U hU hW => Pw.to (hP.ms _ hMs) (hD.ms _ hMs) (hK.ms [false, false, false] rfl) hE hS hFc hU hW⟩ rfl rfl hl.1 rfl (lv_room (Nat.le_of_ble_eq_true rfl)) dX7_settles_13 ⟨Nat.le_of_ble_eq_true rfl, Nat.le_of_ble_eq_true rfl⟩) hS (fun q _ h => hFc q h) hFc (fun r u t H locs ht hvm hw hB hz1 hk1 hS => ?_)
      have hru9 := hw.2
      have hw := hw.1
      refine ex_1_1 hB (fun x_2202 e_x_2202_0 hB => ?_)
      obtain ⟨hP, hD⟩ := Bw.goN (ws' := [(oc7 oM x_2199 rM_tape iM_taped iM_size iM_at iM_end iM_token iM_whole iM_nameSize iM_fault iM_place x_2202 rM_letters iM_failed iM_hasCourt rM_r rM_fresh rM_told rM_read rM_st rM_undone rM_kept iM_undos iM_images rM_fresher iM_fresherSize iM_scale iM_night rM_heardRow rM_cutRow iM_breaths iM_cutMany iM_allBreaths rM_trial rM_words iM_fewestBreaths iM_orderMany iM_orderSum iM_leastOrder rM_often iM_setMany iM_someOf iM_allOf iM_allWeight iM_enoughWeight iM_worthSum iM_firstRest iM_leastDrawn), (arI rM_r kM_r 287 fM_r), (arI rM_told kM_told 90 fM_told), (arI rM_st kM_st 90 fM_st)]) hB rfl ht hP hD _ hMs hk1 hFc rfl
      clear hz1 hk1 hvm ht hB hMs
      rw [← hru9] at e_x_2202_0
      obtain ⟨x_2203, rfl⟩ : ∃ z, z = r := ⟨_, rfl⟩
      have hG := hG.trans (un2_eq e_x_2202_0)
      exact wq_i hx hb hr (cI x_2203) ⟨⟨trivial, trivial⟩, (cI_of x_2203)⟩ (fun t ht hW => ⟨x_2199, x_2202, iM_night, hnt, (cI_tup hG), Bw.to hP hD hK ht hW⟩) hS dX7_settles_16 hlocks
  · skip
    refine va_get (D := (dC, dI)) (ci := 7) (v := .int iM_hasCourt) (C := RX7) (T := TX7) (N := 48) hx hb hts inX7 hown hK hP 0 rfl rfl 14 (by decide) (hts _ wd_385) (fun _ h9 => h9) rfl dX7_settles_5 ?_
    refine lv_if_ne (tgt := 17) hx hb dX7_settles_8 (by decide) (fun c_2204 => ?_) (fun c_2204 => ?_)
    · skip
      have hG := hG.trans (if_neg c_2204)
      have gc_2204 := ti_ne c_2204 rfl kc_0
      refine lv_bipush (v := 10) hx hb dX7_settles_17 (by decide) ?_
      refine lv_istore_n (lv' := [(1, .int 10), (0, .ref oM)]) hx hb dX7_settles_19 rfl hl (by decide) rfl (fun ls hl => ?_)
      have hl := lv_sub hl (l' := [(1, .int 10), (0, .ref oM)]) [0, 1] rfl
      have key_n_2207 : ∀ (n_2207 : Nat) (z_2205 : Int32) (z_2206 : Int32) (H : Heap) (locs : List Loc) (ls : Array Slot), (0 ≤ z_2205.toInt ∧ z_2205.toInt ≤ 10) → (z_2206.toInt = -1) → z_2205.toInt.toNat < n_2207 → (PX7_settles iM_hasCourt fM_r fM_told fM_st iM_scale iM_night = HX7_settles_0 fM_r fM_told fM_st iM_scale x_2199 x_2200 n_2207 z_2205 z_2206) → va_P (dC, dI) vwCl [(oc7 oM x_2199 rM_tape iM_taped iM_size iM_at iM_end iM_token iM_whole iM_nameSize iM_fault iM_place x_2200 rM_letters iM_failed iM_hasCourt rM_r rM_fresh rM_told rM_read rM_st rM_undone rM_kept iM_undos iM_images rM_fresher iM_fresherSize iM_scale z_2206 rM_heardRow rM_cutRow iM_breaths iM_cutMany iM_allBreaths rM_trial rM_words iM_fewestBreaths iM_orderMany iM_orderSum iM_leastOrder rM_often iM_setMany iM_someOf iM_allOf iM_allWeight iM_enoughWeight iM_worthSum iM_firstRest iM_leastDrawn), (arI rM_r kM_r 287 fM_r), (arI rM_told kM_told 90 fM_told), (arI rM_st kM_st 90 fM_st)] H → va_D A [(oc7 oM x_2199 rM_tape iM_taped iM_size iM_at iM_end iM_token iM_whole iM_nameSize iM_fault iM_place x_2200 rM_letters iM_failed iM_hasCourt rM_r rM_fresh rM_told rM_read rM_st rM_undone rM_kept iM_undos iM_images rM_fresher iM_fresherSize iM_scale z_2206 rM_heardRow rM_cutRow iM_breaths iM_cutMany iM_allBreaths rM_trial rM_words iM_fewestBreaths iM_orderMany iM_orderSum iM_leastOrder rM_often iM_setMany iM_someOf iM_allOf iM_allWeight iM_enoughWeight iM_worthSum iM_firstRest iM_leastDrawn), (arI rM_r kM_r 287 fM_r), (arI rM_told kM_told 90 fM_told), (arI rM_st kM_st 90 fM_st)] → va_S A s.heap H locs → lv_has ls 2 [(1, .int z_2205), (0, .ref oM)] → W p l e (headSpec (Cond.code yX7_settles cX7_settles 2 (some .int) :: wG) ({ frames := 23, cells := 0, slots := 0, locals := 607 })).room s m ([.ref oM] : List Value).toArray below meth c H locs 0 0 (MQ below (va_Qi (fun (r : Int32) (u : Nat) => (True ∧ True) ∧ r = Int32.ofNat u) (fun (u : Nat) (t : State) => ∃ (niM_thrown : Int32) (niM_trouble : Int32) (niM_night : Int32), (niM_night.toInt = -1) ∧ (PX7_settles iM_hasCourt fM_r fM_told fM_st iM_scale iM_night = (Int32.ofNat u, niM_thrown, niM_trouble, niM_night)) ∧ Bw dC dI A [(oc7 oM niM_thrown rM_tape iM_taped iM_size iM_at iM_end iM_token iM_whole iM_nameSize iM_fault iM_place niM_trouble rM_letters iM_failed iM_hasCourt rM_r rM_fresh rM_told rM_read rM_st rM_undone rM_kept iM_undos iM_images rM_fresher iM_fresherSize iM_scale niM_night rM_heardRow rM_cutRow iM_breaths iM_cutMany iM_allBreaths rM_trial rM_words iM_fewestBreaths iM_orderMany iM_orderSum iM_leastOrder rM_often iM_setMany iM_someOf iM_allOf iM_allWeight iM_enoughWeight iM_worthSum iM_firstRest iM_leastDrawn), (arI rM_r kM_r 287 fM_r), (arI rM_told kM_told 90 fM_told), (arI rM_st kM_st 90 fM_st)] [(kM_r, .int), (kM_told, .int), (kM_st, .int)] t) A) ([.ref oM] : List Value).toArray s 0 0 A) (F0 m 20 ls []) := by
        intro n_2207
        induction n_2207 with
        | zero => intro z_2205 z_2206 H locs ls hi0_n_2207 hi1_n_2207 hm; exact absurd hm (Nat.not_lt_zero _)
        | succ n_2207 ih_n_2207 =>
          intro z_2205 z_2206 H locs ls hi0_n_2207 hi1_n_2207 hm_n_2207 hG hP hD hS hl
          have hG := hG.trans (HX7_settles_0_eq _ _ _ _ _ _ _ _ _)
          refine lv_iload_n hx hb dX7_settles_20 rfl (lv_at hl 0 rfl) ?_
          refine lv_if_le (tgt := 48) hx hb dX7_settles_21 (by decide) (fun c_2208 => ?_) (fun c_2208 => ?_)
          · skip
            have hG := hG.trans (if_pos c_2208)
            have gc_2208 := ti_le c_2208 rfl kc_0
            refine lv_iload_n hx hb dX7_settles_48 rfl (lv_at hl 0 rfl) ?_
            exact wq_i hx hb hr (cI z_2205) ⟨⟨trivial, trivial⟩, (cI_of z_2205)⟩ (fun t ht hW => ⟨x_2199, x_2200, z_2206, hi1_n_2207, (cI_tup hG), Bw.to hP hD hK ht hW⟩) hS dX7_settles_49 hlocks
          · skip
            have hG := hG.trans (if_neg c_2208)
            have gc_2208 := ti_nle c_2208 rfl kc_0
            refine lv_aload_n hx hb dX7_settles_24 rfl (lv_at hl 1 rfl) ?_
            refine lv_iload_n hx hb dX7_settles_25 rfl (lv_at hl 0 rfl) ?_
            refine lv_iconst (v := 1) hx hb dX7_settles_26 (by decide) ?_
            refine lv_isub hx hb dX7_settles_27 ?_
            refine lv_topi (fun x_2209 ex_2209 => ?_)
            have hG := hG.trans (lt_eq ex_2209)
            have vx_2209 : x_2209.toInt = z_2205.toInt + (-1) := om_89646172 (ti_sub ex_2209 rfl kc_1 (om_e65a73c2 hi0_n_2207.1) (om_20253e97 hi0_n_2207.2))
            have hFc := va_freeI hD hS hA
            refine va_calli (va_runV (As := [.int x_2209]) (rest := []) ⟨hx, hb, hml, hown, hts⟩ (tX7_throneAt l dC dI _ oM x_2199 rM_tape iM_taped iM_size iM_at iM_end iM_token iM_whole iM_nameSize iM_fault iM_place x_2200 rM_letters iM_failed iM_hasCourt rM_r fM_r kM_r rM_fresh rM_told fM_told kM_told rM_read rM_st fM_st kM_st rM_undone rM_kept iM_undos iM_images rM_fresher iM_fresherSize iM_scale z_2206 rM_heardRow rM_cutRow iM_breaths iM_cutMany iM_allBreaths rM_trial rM_words iM_fewestBreaths iM_orderMany iM_orderSum iM_leastOrder rM_often iM_setMany iM_someOf iM_allOf iM_allWeight iM_enoughWeight iM_worthSum iM_firstRest iM_leastDrawn x_2209 b_iM_taped b_iM_size b_iM_end b_iM_failed b_iM_hasCourt b_iM_undos b_iM_images b_iM_scale b_iM_breaths b_iM_cutMany (by assumption) (by assumption) (by assumption) (by assumption) (by assumption) ⟨r_C1.2.1, r_C1.2.2⟩) (cwV 1 hts (wd_V wd_1100 wd_1101 wd_1102 wd_5 (wd_c wd_1103)) rfl rfl rfl dv_yX7_throneAt_1 ⟨Nat.le_of_ble_eq_true rfl, Nat.le_of_ble_eq_true rfl⟩) ⟨Pw.fb, recvX7 hK hP (q0 := 0) rfl, fun U hU hW => Pw.to hP hD hK hE hS hFc hU hW⟩ rfl rfl hl.1 rfl (lv_room (Nat.le_of_ble_eq_true rfl)) dX7_settles_28 ⟨Nat.le_of_ble_eq_true rfl, Nat.le_of_ble_eq_true rfl⟩) hS (fun q _ h => hFc q h) hFc (fun r u t H locs ht hvm hw hB hz1 hk1 hS => ?_)
            have hru9 := hw.2
            have hw := hw.1
            refine ex_1_2 hB (fun x_2210 b_x_2210 e_x_2210_0 hB => ?_)
            obtain ⟨hP, hD⟩ := Bw.goA (ws' := [(oc7 oM x_2199 rM_tape iM_taped iM_size iM_at iM_end iM_token iM_whole iM_nameSize iM_fault iM_place x_2200 rM_letters iM_failed iM_hasCourt rM_r rM_fresh rM_told rM_read rM_st rM_undone rM_kept iM_undos iM_images rM_fresher iM_fresherSize iM_scale x_2210 rM_heardRow rM_cutRow iM_breaths iM_cutMany iM_allBreaths rM_trial rM_words iM_fewestBreaths iM_orderMany iM_orderSum iM_leastOrder rM_often iM_setMany iM_someOf iM_allOf iM_allWeight iM_enoughWeight iM_worthSum iM_firstRest iM_leastDrawn), (arI rM_r kM_r 287 fM_r), (arI rM_told kM_told 90 fM_told), (arI rM_st kM_st 90 fM_st)]) hB rfl ht hFc rfl
            clear hz1 hk1 hvm ht hB
            rw [← hru9] at e_x_2210_0
            obtain ⟨x_2211, rfl⟩ : ∃ z, z = r := ⟨_, rfl⟩
            have hG := hG.trans (un2_eq e_x_2210_0)
            refine lv_aload_n hx hb dX7_settles_31 rfl (lv_at hl 1 rfl) ?_
            refine lv_aload_n hx hb dX7_settles_32 rfl (lv_at hl 1 rfl) ?_
            refine va_get (D := (dC, dI)) (ci := 7) (v := .ref rM_st) (C := RX7) (T := TX7) (N := 48) hx hb hts inX7 hown hK hP 0 rfl rfl 19 (by decide) (hts _ wd_159) (fun _ h9 => h9) rfl dX7_settles_33 ?_
            have hFc := va_freeI hD hS hA
            refine va_calli (va_runV (As := [.ref rM_st]) (rest := [.int x_2211]) ⟨hx, hb, hml, hown, hts⟩ (tX7_throneBy l dC dI _ oM x_2199 rM_tape iM_taped iM_size iM_at iM_end iM_token iM_whole iM_nameSize iM_fault iM_place x_2200 rM_letters iM_failed iM_hasCourt rM_r fM_r kM_r rM_fresh rM_told fM_told kM_told rM_read rM_st rM_undone rM_kept iM_undos iM_images rM_fresher iM_fresherSize iM_scale x_2210 rM_heardRow rM_cutRow iM_breaths iM_cutMany iM_allBreaths rM_trial rM_words iM_fewestBreaths iM_orderMany iM_orderSum iM_leastOrder rM_often iM_setMany iM_someOf iM_allOf iM_allWeight iM_enoughWeight iM_worthSum iM_firstRest iM_leastDrawn rM_st fM_st kM_st b_iM_taped b_iM_size b_iM_end b_iM_failed b_iM_hasCourt b_iM_undos b_iM_images b_iM_scale b_iM_breaths b_iM_cutMany (by assumption) (by assumption) (by assumption) (by assumption) ⟨r_C1.2.1, r_C1.2.2⟩) (cwV 1 hts (wd_V wd_979 wd_980 wd_981 wd_5 (wd_c wd_982)) rfl rfl rfl dv_yX7_throneBy_1 ⟨Nat.le_of_ble_eq_true rfl, Nat.le_of_ble_eq_true rfl⟩) ⟨Pw.fb, recvX7 hK hP (q0 := 0) rfl, fun U hU hW => Pw.to hP hD hK hE hS hFc hU hW⟩ rfl rfl hl.1 rfl (lv_room (Nat.le_of_ble_eq_true rfl)) dX7_settles_36 ⟨Nat.le_of_ble_eq_true rfl, Nat.le_of_ble_eq_true rfl⟩) hS (fun q _ h => hFc q h) hFc (fun r u t H locs ht hvm hw hB hz1 hk1 hS => ?_)
            have hru9 := hw.2
            have hw := hw.1
            obtain ⟨hP, hD⟩ := Bw.goA (ws' := [(oc7 oM x_2199 rM_tape iM_taped iM_size iM_at iM_end iM_token iM_whole iM_nameSize iM_fault iM_place x_2200 rM_letters iM_failed iM_hasCourt rM_r rM_fresh rM_told rM_read rM_st rM_undone rM_kept iM_undos iM_images rM_fresher iM_fresherSize iM_scale x_2210 rM_heardRow rM_cutRow iM_breaths iM_cutMany iM_allBreaths rM_trial rM_words iM_fewestBreaths iM_orderMany iM_orderSum iM_leastOrder rM_often iM_setMany iM_someOf iM_allOf iM_allWeight iM_enoughWeight iM_worthSum iM_firstRest iM_leastDrawn), (arI rM_r kM_r 287 fM_r), (arI rM_told kM_told 90 fM_told), (arI rM_st kM_st 90 fM_st)]) hB rfl ht hFc rfl
            clear hz1 hk1 hvm ht hB
            obtain ⟨x_2212, rfl⟩ : ∃ z, z = r := ⟨_, rfl⟩
            have hG := hG.trans (lt_eq hru9.symm)
            refine lv_icmp_ne (tgt := 48) hx hb dX7_settles_39 (by decide) (fun c_2213 => ?_) (fun c_2213 => ?_)
            · skip
              have hG := hG.trans (if_neg c_2213)
              have gc_2213 := ti_ne c_2213 rfl rfl
              refine lv_iload_n hx hb dX7_settles_48 rfl (lv_at hl 0 rfl) ?_
              exact wq_i hx hb hr (cI z_2205) ⟨⟨trivial, trivial⟩, (cI_of z_2205)⟩ (fun t ht hW => ⟨x_2199, x_2200, x_2210, (om_ccbdd137 b_x_2210.2 b_x_2210.1), (cI_tup hG), Bw.to hP hD hK ht hW⟩) hS dX7_settles_49 hlocks
            · skip
              have hG := hG.trans (if_pos c_2213)
              have gc_2213 := ti_eq c_2213 rfl rfl
              obtain ⟨x_2214, ex_2214⟩ : ∃ z : Int32, z = z_2205 + Int32.ofInt (-1) := ⟨_, rfl⟩
              have hG := hG.trans (lt_eq ex_2214)
              have vx_2214 : x_2214.toInt = z_2205.toInt + (-1) := ti_add (y := (-1)) ex_2214 rfl kc_m1 (om_dd968ed2 hi0_n_2207.1) (om_da6e91bb hi0_n_2207.2)
              refine lv_iinc (v := x_2214) (lv' := [(1, .int x_2214), (0, .ref oM)]) hx hb dX7_settles_42 hl (k := 0) rfl ex_2214.symm (by decide) rfl (fun ls hl => ?_)
              refine lv_goto (tgt := 20) hx hb dX7_settles_45 (by decide) ?_
              exact ih_n_2207 x_2214 x_2210 _ _ _  ⟨(om_7080e04c gc_2208 vx_2214), (om_19f1ec8e hi0_n_2207.2 vx_2214)⟩ (om_ccbdd137 b_x_2210.2 b_x_2210.1) (ms_lt hm_n_2207 (om_76844f4e vx_2214) gc_2208) hG hP hD hS (lv_sub hl [0, 1] rfl)
      exact key_n_2207 (((10 : Int32).toInt.toNat) + 1) 10 iM_night _ _ _  ⟨(om_a870273e kc_10), (om_6c1783e4 kc_10)⟩ hnt (Nat.lt_add_one _) hG hP hD hS hl
    · skip
      have hG := hG.trans (if_pos c_2204)
      have gc_2204 := ti_eq c_2204 rfl kc_0
      refine lv_aload_n hx hb dX7_settles_11 rfl (lv_at hl 0 rfl) ?_
      refine lv_iconst (v := 1) hx hb dX7_settles_12 (by decide) ?_
      have hMs := ml_of hD [true, false, false, false] (wc := [(oc7 oM x_2199 rM_tape iM_taped iM_size iM_at iM_end iM_token iM_whole iM_nameSize iM_fault iM_place x_2200 rM_letters iM_failed iM_hasCourt rM_r rM_fresh rM_told rM_read rM_st rM_undone rM_kept iM_undos iM_images rM_fresher iM_fresherSize iM_scale iM_night rM_heardRow rM_cutRow iM_breaths iM_cutMany iM_allBreaths rM_trial rM_words iM_fewestBreaths iM_orderMany iM_orderSum iM_leastOrder rM_often iM_setMany iM_someOf iM_allOf iM_allWeight iM_enoughWeight iM_worthSum iM_firstRest iM_leastDrawn)]) rfl
      have hFc := va_freeM hD hS hA _ hMs
      refine va_calli (va_runV (As := [.int 1]) (rest := []) ⟨hx, hb, hml, hown, hts⟩ (tX7_no l dC dI _ oM x_2199 rM_tape iM_taped iM_size iM_at iM_end iM_token iM_whole iM_nameSize iM_fault iM_place x_2200 rM_letters iM_failed iM_hasCourt rM_r rM_fresh rM_told rM_read rM_st rM_undone rM_kept iM_undos iM_images rM_fresher iM_fresherSize iM_scale iM_night rM_heardRow rM_cutRow iM_breaths iM_cutMany iM_allBreaths rM_trial rM_words iM_fewestBreaths iM_orderMany iM_orderSum iM_leastOrder rM_often iM_setMany iM_someOf iM_allOf iM_allWeight iM_enoughWeight iM_worthSum iM_firstRest iM_leastDrawn 1 b_iM_taped b_iM_size b_iM_end b_iM_failed b_iM_hasCourt b_iM_undos b_iM_images b_iM_scale b_iM_breaths b_iM_cutMany) (cwV 1 hts (wd_V wd_396 wd_397 wd_398 wd_5 (wd_c wd_399)) rfl rfl rfl dv_yX7_no_1 ⟨Nat.le_of_ble_eq_true rfl, Nat.le_of_ble_eq_true rfl⟩) ⟨Pw.fb, recvX7 hK hP (q0 := 0) rfl, fun U hU hW => Pw.to (hP.ms _ hMs) (hD.ms _ hMs) (hK.ms [false, false, false] rfl) hE hS hFc hU hW⟩ rfl rfl hl.1 rfl (lv_room (Nat.le_of_ble_eq_true rfl)) dX7_settles_13 ⟨Nat.le_of_ble_eq_true rfl, Nat.le_of_ble_eq_true rfl⟩) hS (fun q _ h => hFc q h) hFc (fun r u t H locs ht hvm hw hB hz1 hk1 hS => ?_)
      have hru9 := hw.2
      have hw := hw.1
      refine ex_1_1 hB (fun x_2215 e_x_2215_0 hB => ?_)
      obtain ⟨hP, hD⟩ := Bw.goN (ws' := [(oc7 oM x_2199 rM_tape iM_taped iM_size iM_at iM_end iM_token iM_whole iM_nameSize iM_fault iM_place x_2215 rM_letters iM_failed iM_hasCourt rM_r rM_fresh rM_told rM_read rM_st rM_undone rM_kept iM_undos iM_images rM_fresher iM_fresherSize iM_scale iM_night rM_heardRow rM_cutRow iM_breaths iM_cutMany iM_allBreaths rM_trial rM_words iM_fewestBreaths iM_orderMany iM_orderSum iM_leastOrder rM_often iM_setMany iM_someOf iM_allOf iM_allWeight iM_enoughWeight iM_worthSum iM_firstRest iM_leastDrawn), (arI rM_r kM_r 287 fM_r), (arI rM_told kM_told 90 fM_told), (arI rM_st kM_st 90 fM_st)]) hB rfl ht hP hD _ hMs hk1 hFc rfl
      clear hz1 hk1 hvm ht hB hMs
      rw [← hru9] at e_x_2215_0
      obtain ⟨x_2216, rfl⟩ : ∃ z, z = r := ⟨_, rfl⟩
      have hG := hG.trans (un2_eq e_x_2215_0)
      exact wq_i hx hb hr (cI x_2216) ⟨⟨trivial, trivial⟩, (cI_of x_2216)⟩ (fun t ht hW => ⟨x_2199, x_2215, iM_night, hnt, (cI_tup hG), Bw.to hP hD hK ht hW⟩) hS dX7_settles_16 hlocks
set_option maxHeartbeats 4000000 in
set_option maxRecDepth 100000 in
theorem tX7_turnOf (l : Launch) (dC : Nat → ClassId) (dI : Nat → Nat → Nat) (sz : Nat) (oM : Nat) (iM_thrown : Int32) (rM_tape : Nat) (iM_taped : Int32) (iM_size : Int32) (iM_at : Int32) (iM_end : Int32) (iM_token : Int32) (iM_whole : Int32) (iM_nameSize : Int32) (iM_fault : Int32) (iM_place : Int32) (iM_trouble : Int32) (rM_letters : Nat) (iM_failed : Int32) (iM_hasCourt : Int32) (rM_r : Nat) (fM_r : Nat → Int32) (kM_r : ClassId) (rM_fresh : Nat) (rM_told : Nat) (fM_told : Nat → Int32) (kM_told : ClassId) (rM_read : Nat) (rM_st : Nat) (fM_st : Nat → Int32) (kM_st : ClassId) (rM_undone : Nat) (rM_kept : Nat) (iM_undos : Int32) (iM_images : Int32) (rM_fresher : Nat) (iM_fresherSize : Int32) (iM_scale : Int32) (iM_night : Int32) (rM_heardRow : Nat) (rM_cutRow : Nat) (iM_breaths : Int32) (iM_cutMany : Int32) (iM_allBreaths : Int32) (rM_trial : Nat) (fM_trial : Nat → Int32) (kM_trial : ClassId) (rM_words : Nat) (iM_fewestBreaths : Int32) (iM_orderMany : Int32) (iM_orderSum : Int32) (iM_leastOrder : Int32) (rM_often : Nat) (iM_setMany : Int32) (iM_someOf : Int32) (iM_allOf : Int32) (iM_allWeight : Int64) (iM_enoughWeight : Int64) (iM_worthSum : Int64) (iM_firstRest : Int32) (iM_leastDrawn : Int32) (p0 : Int32) (b_iM_taped : 0 ≤ iM_taped.toInt ∧ iM_taped.toInt ≤ 900) (b_iM_size : 0 ≤ iM_size.toInt ∧ iM_size.toInt ≤ 900) (b_iM_end : 0 ≤ iM_end.toInt ∧ iM_end.toInt ≤ 900) (b_iM_failed : 0 ≤ iM_failed.toInt ∧ iM_failed.toInt ≤ 1) (b_iM_hasCourt : 0 ≤ iM_hasCourt.toInt ∧ iM_hasCourt.toInt ≤ 1) (b_iM_undos : 0 ≤ iM_undos.toInt ∧ iM_undos.toInt ≤ 16) (b_iM_images : 0 ≤ iM_images.toInt ∧ iM_images.toInt ≤ 3) (b_iM_scale : 1 ≤ iM_scale.toInt ∧ iM_scale.toInt ≤ 1296) (b_iM_breaths : 0 ≤ iM_breaths.toInt ∧ iM_breaths.toInt ≤ 399) (b_iM_cutMany : 0 ≤ iM_cutMany.toInt ∧ iM_cutMany.toInt ≤ 399) (r_R : ROk fM_r) (r_C : iM_hasCourt.toInt ≤ 0 ∨ (1 ≤ (fM_r 1).toInt ∧ 0 ≤ (fM_r 6).toInt ∧ (fM_r 6).toInt < (fM_r 1).toInt)) (r_st : RowOk fM_r fM_st) (r_told : RowOk fM_r fM_told) (r_wst : WorOk fM_st) (hk0 : 0 ≤ p0.toInt ∧ p0.toInt < (fM_r 1).toInt) (hth : 0 ≤ (fM_r 6).toInt ∧ (fM_r 6).toInt < (fM_r 1).toInt) : Met l yX7_turnOf (Cond.code yX7_turnOf cX7_turnOf 5 (some .int) :: wG) ({ frames := 22, cells := 0, slots := 0, locals := 585 }) (va_Pc [.ref oM, .int p0] (Pw dC dI sz [(oc7 oM iM_thrown rM_tape iM_taped iM_size iM_at iM_end iM_token iM_whole iM_nameSize iM_fault iM_place iM_trouble rM_letters iM_failed iM_hasCourt rM_r rM_fresh rM_told rM_read rM_st rM_undone rM_kept iM_undos iM_images rM_fresher iM_fresherSize iM_scale iM_night rM_heardRow rM_cutRow iM_breaths iM_cutMany iM_allBreaths rM_trial rM_words iM_fewestBreaths iM_orderMany iM_orderSum iM_leastOrder rM_often iM_setMany iM_someOf iM_allOf iM_allWeight iM_enoughWeight iM_worthSum iM_firstRest iM_leastDrawn), (arI rM_r kM_r 287 fM_r), (arI rM_told kM_told 90 fM_told), (arI rM_st kM_st 90 fM_st), (arI rM_trial kM_trial 90 fM_trial)] [(kM_r, .int), (kM_told, .int), (kM_st, .int), (kM_trial, .int)])) (va_Qi (fun (r : Int32) (u : Nat) => (True ∧ True) ∧ r = Int32.ofNat u) (fun (u : Nat) (t : State) => ∃ (nfM_trial : Nat → Int32), (PX7_turnOf fM_r fM_told fM_st iM_scale iM_night fM_trial p0 = (Int32.ofNat u, nfM_trial)) ∧ Bw dC dI (va_A [(oc7 oM iM_thrown rM_tape iM_taped iM_size iM_at iM_end iM_token iM_whole iM_nameSize iM_fault iM_place iM_trouble rM_letters iM_failed iM_hasCourt rM_r rM_fresh rM_told rM_read rM_st rM_undone rM_kept iM_undos iM_images rM_fresher iM_fresherSize iM_scale iM_night rM_heardRow rM_cutRow iM_breaths iM_cutMany iM_allBreaths rM_trial rM_words iM_fewestBreaths iM_orderMany iM_orderSum iM_leastOrder rM_often iM_setMany iM_someOf iM_allOf iM_allWeight iM_enoughWeight iM_worthSum iM_firstRest iM_leastDrawn), (arI rM_r kM_r 287 fM_r), (arI rM_told kM_told 90 fM_told), (arI rM_st kM_st 90 fM_st), (arI rM_trial kM_trial 90 fM_trial)] sz) [(oc7 oM iM_thrown rM_tape iM_taped iM_size iM_at iM_end iM_token iM_whole iM_nameSize iM_fault iM_place iM_trouble rM_letters iM_failed iM_hasCourt rM_r rM_fresh rM_told rM_read rM_st rM_undone rM_kept iM_undos iM_images rM_fresher iM_fresherSize iM_scale iM_night rM_heardRow rM_cutRow iM_breaths iM_cutMany iM_allBreaths rM_trial rM_words iM_fewestBreaths iM_orderMany iM_orderSum iM_leastOrder rM_often iM_setMany iM_someOf iM_allOf iM_allWeight iM_enoughWeight iM_worthSum iM_firstRest iM_leastDrawn), (arI rM_r kM_r 287 fM_r), (arI rM_told kM_told 90 fM_told), (arI rM_st kM_st 90 fM_st), (arI rM_trial kM_trial 90 nfM_trial)] [(kM_r, .int), (kM_told, .int), (kM_st, .int), (kM_trial, .int)] t) (va_A [(oc7 oM iM_thrown rM_tape iM_taped iM_size iM_at iM_end iM_token iM_whole iM_nameSize iM_fault iM_place iM_trouble rM_letters iM_failed iM_hasCourt rM_r rM_fresh rM_told rM_read rM_st rM_undone rM_kept iM_undos iM_images rM_fresher iM_fresherSize iM_scale iM_night rM_heardRow rM_cutRow iM_breaths iM_cutMany iM_allBreaths rM_trial rM_words iM_fewestBreaths iM_orderMany iM_orderSum iM_leastOrder rM_often iM_setMany iM_someOf iM_allOf iM_allWeight iM_enoughWeight iM_worthSum iM_firstRest iM_leastDrawn), (arI rM_r kM_r 287 fM_r), (arI rM_told kM_told 90 fM_told), (arI rM_st kM_st 90 fM_st), (arI rM_trial kM_trial 90 fM_trial)] sz)) 0 0 (va_A [(oc7 oM iM_thrown rM_tape iM_taped iM_size iM_at iM_end iM_token iM_whole iM_nameSize iM_fault iM_place iM_trouble rM_letters iM_failed iM_hasCourt rM_r rM_fresh rM_told rM_read rM_st rM_undone rM_kept iM_undos iM_images rM_fresher iM_fresherSize iM_scale iM_night rM_heardRow rM_cutRow iM_breaths iM_cutMany iM_allBreaths rM_trial rM_words iM_fewestBreaths iM_orderMany iM_orderSum iM_leastOrder rM_often iM_setMany iM_someOf iM_allOf iM_allWeight iM_enoughWeight iM_worthSum iM_firstRest iM_leastDrawn), (arI rM_r kM_r 287 fM_r), (arI rM_told kM_told 90 fM_told), (arI rM_st kM_st 90 fM_st), (arI rM_trial kM_trial 90 fM_trial)] sz) := by
  refine Met.ofW (cc := cX7_turnOf) (maxL := 5) (ret := (some .int)) pnX7 rfl ?_
  intro p e s m args below meth c s₁ B hml hv
  obtain ⟨rfl, hsz, hP, hK, hD0, hE⟩ := hv
  have hx := B.exec
  have hb := B.bytes
  have hr := B.returns
  have hts : ∀ w ∈ wG, w.before ([.ref oM, .int p0] : List Value).toArray s = true := fun w h => atoms_spec (ws := Cond.code yX7_turnOf cX7_turnOf 5 (some .int) :: wG) B.pre w (List.mem_cons_of_mem _ h)
  have hown : s.vm.findClass RX7 = some m.cls := own_of B.named rfl
  have hlocks := B.notSynchronized
  subst hsz
  have hD := hD0.self (sz := s.heap.size)
  generalize hAe : va_A [(oc7 oM iM_thrown rM_tape iM_taped iM_size iM_at iM_end iM_token iM_whole iM_nameSize iM_fault iM_place iM_trouble rM_letters iM_failed iM_hasCourt rM_r rM_fresh rM_told rM_read rM_st rM_undone rM_kept iM_undos iM_images rM_fresher iM_fresherSize iM_scale iM_night rM_heardRow rM_cutRow iM_breaths iM_cutMany iM_allBreaths rM_trial rM_words iM_fewestBreaths iM_orderMany iM_orderSum iM_leastOrder rM_often iM_setMany iM_someOf iM_allOf iM_allWeight iM_enoughWeight iM_worthSum iM_firstRest iM_leastDrawn), (arI rM_r kM_r 287 fM_r), (arI rM_told kM_told 90 fM_told), (arI rM_st kM_st 90 fM_st), (arI rM_trial kM_trial 90 fM_trial)] s.heap.size = A at hD hE ⊢
  have hA : ∀ q : Nat, s.heap.size ≤ q → A q := fun q h => by rw [← hAe]; exact Or.inr h
  have hS : va_S A s.heap s.heap [] := va_S.rf
  have hl := lv_entry ([.ref oM, .int p0]) (n := 5) (Nat.le_of_ble_eq_true rfl)
  rw [lg_entry_eq]
  generalize (lg_sl ([.ref oM, .int p0]) ++ List.replicate (5 - (lg_sl ([.ref oM, .int p0])).length) Slot.unset).toArray = ls at hl ⊢
  have hl : lv_has ls 5 [(0, .ref oM), (1, .int p0)] := hl
  have hG := PX7_turnOf_eq fM_r fM_told fM_st iM_scale iM_night fM_trial p0
  have s_slips := r_R.slips
  have s_nodes := r_R.nodes
  have s_uns := r_R.uns
  have q_p0 := ti_cl (x := p0) rfl hk0.1
  have mn_p0 := r_R.many (27 + p0.toNatClampNeg) (Nat.le_add_right _ _) (om_6c263690 (ti_cl (x := p0) rfl hk0.1) hk0.2 s_nodes.2)
  have kn_p0 := r_R.kind (9 + p0.toNatClampNeg) (Nat.le_add_right _ _) (om_57ce868b (ti_cl (x := p0) rfl hk0.1) hk0.2 s_nodes.2)
  have in_p0 := r_R.inner p0.toNatClampNeg (om_05d4ad0a (ti_cl (x := p0) rfl hk0.1) hk0.2)
  refine lv_aload_n hx hb dX7_turnOf_0 rfl (lv_at hl 0 rfl) ?_
  refine va_get (D := (dC, dI)) (ci := 7) (v := .ref rM_st) (C := RX7) (T := TX7) (N := 48) hx hb hts inX7 hown hK hP 0 rfl rfl 19 (by decide) (hts _ wd_159) (fun _ h9 => h9) rfl dX7_turnOf_1 ?_
  refine lv_iconst (v := 0) hx hb dX7_turnOf_4 (by decide) ?_
  refine lv_aload_n hx hb dX7_turnOf_5 rfl (lv_at hl 0 rfl) ?_
  refine va_get (D := (dC, dI)) (ci := 7) (v := .ref rM_trial) (C := RX7) (T := TX7) (N := 48) hx hb hts inX7 hown hK hP 0 rfl rfl 33 (by decide) (hts _ wd_167) (fun _ h9 => h9) rfl dX7_turnOf_6 ?_
  refine lv_iconst (v := 0) hx hb dX7_turnOf_9 (by decide) ?_
  refine lv_bipush (v := 90) hx hb dX7_turnOf_10 (by decide) ?_
  have hMs := ml_of hD [false, false, false, true, true] (wc := [(arI rM_st kM_st 90 fM_st), (arI rM_trial kM_trial 90 fM_trial)]) rfl
  have hFc := va_freeM hD hS hA _ hMs
  refine va_callv (va_runS (As := [.ref rM_st, .int 0, .ref rM_trial, .int 0, .int 90]) (rest := []) ⟨hx, hb, hml, hown, hts⟩ (tX7_copy_90_90 l dC dI _ rM_st fM_st kM_st rM_trial fM_trial kM_trial 0 0 90 ⟨(om_b1de7dbe kc_0), (om_b1de7dbe kc_0), (om_34f60646 kc_90)⟩ (om_3b9d1022 kc_0 kc_90) (om_3b9d1022 kc_0 kc_90)) (va_cwS 5 hts (wd_S wd_475 wd_476 wd_5 (wd_c wd_477)) rfl rfl rfl ds_yX7_copy_5 ⟨Nat.le_of_ble_eq_true rfl, Nat.le_of_ble_eq_true rfl⟩) ⟨Pw.fb, fun U hU hW => Pw.to (hP.ms _ hMs) (hD.ms _ hMs) (hK.ms [false, false, true, true] rfl) hE hS hFc hU hW⟩ rfl rfl hl.1 rfl (lv_room (Nat.le_of_ble_eq_true rfl)) dX7_turnOf_12 ⟨Nat.le_of_ble_eq_true rfl, Nat.le_of_ble_eq_true rfl⟩) hS (fun q _ h => hFc q h) hFc (fun u t H locs ht hvm hw hB hz1 hk1 hS => ?_)
  refine ex_1_1 hB (fun f_2243 e_f_2243_0 hB => ?_)
  obtain ⟨hP, hD⟩ := Bw.goN (ws' := [(oc7 oM iM_thrown rM_tape iM_taped iM_size iM_at iM_end iM_token iM_whole iM_nameSize iM_fault iM_place iM_trouble rM_letters iM_failed iM_hasCourt rM_r rM_fresh rM_told rM_read rM_st rM_undone rM_kept iM_undos iM_images rM_fresher iM_fresherSize iM_scale iM_night rM_heardRow rM_cutRow iM_breaths iM_cutMany iM_allBreaths rM_trial rM_words iM_fewestBreaths iM_orderMany iM_orderSum iM_leastOrder rM_often iM_setMany iM_someOf iM_allOf iM_allWeight iM_enoughWeight iM_worthSum iM_firstRest iM_leastDrawn), (arI rM_r kM_r 287 fM_r), (arI rM_told kM_told 90 fM_told), (arI rM_st kM_st 90 fM_st), (arI rM_trial kM_trial 90 f_2243)]) hB rfl ht hP hD _ hMs hk1 hFc rfl
  clear hz1 hk1 hvm ht hB hMs
  have r_f_2243 : RowOk fM_r f_2243 := RowOk.copy r_R r_st e_f_2243_0
  have hG := hG.trans (lt_eq (CopyOk.fn e_f_2243_0).symm)
  refine lv_aload_n hx hb dX7_turnOf_15 rfl (lv_at hl 0 rfl) ?_
  refine lv_aload_n hx hb dX7_turnOf_16 rfl (lv_at hl 0 rfl) ?_
  refine va_get (D := (dC, dI)) (ci := 7) (v := .ref rM_st) (C := RX7) (T := TX7) (N := 48) hx hb hts inX7 hown hK hP 0 rfl rfl 19 (by decide) (hts _ wd_159) (fun _ h9 => h9) rfl dX7_turnOf_17 ?_
  have hMs := ml_of hD [true, true, true, true, false] (wc := [(oc7 oM iM_thrown rM_tape iM_taped iM_size iM_at iM_end iM_token iM_whole iM_nameSize iM_fault iM_place iM_trouble rM_letters iM_failed iM_hasCourt rM_r rM_fresh rM_told rM_read rM_st rM_undone rM_kept iM_undos iM_images rM_fresher iM_fresherSize iM_scale iM_night rM_heardRow rM_cutRow iM_breaths iM_cutMany iM_allBreaths rM_trial rM_words iM_fewestBreaths iM_orderMany iM_orderSum iM_leastOrder rM_often iM_setMany iM_someOf iM_allOf iM_allWeight iM_enoughWeight iM_worthSum iM_firstRest iM_leastDrawn), (arI rM_r kM_r 287 fM_r), (arI rM_told kM_told 90 fM_told), (arI rM_st kM_st 90 fM_st)]) rfl
  have hFc := va_freeM hD hS hA _ hMs
  refine va_calli (va_runV (As := [.ref rM_st]) (rest := []) ⟨hx, hb, hml, hown, hts⟩ (tX7_throneBy l dC dI _ oM iM_thrown rM_tape iM_taped iM_size iM_at iM_end iM_token iM_whole iM_nameSize iM_fault iM_place iM_trouble rM_letters iM_failed iM_hasCourt rM_r fM_r kM_r rM_fresh rM_told fM_told kM_told rM_read rM_st rM_undone rM_kept iM_undos iM_images rM_fresher iM_fresherSize iM_scale iM_night rM_heardRow rM_cutRow iM_breaths iM_cutMany iM_allBreaths rM_trial rM_words iM_fewestBreaths iM_orderMany iM_orderSum iM_leastOrder rM_often iM_setMany iM_someOf iM_allOf iM_allWeight iM_enoughWeight iM_worthSum iM_firstRest iM_leastDrawn rM_st fM_st kM_st b_iM_taped b_iM_size b_iM_end b_iM_failed b_iM_hasCourt b_iM_undos b_iM_images b_iM_scale b_iM_breaths b_iM_cutMany (by assumption) (by assumption) (by assumption) (by assumption) ⟨hth.1, hth.2⟩) (cwV 1 hts (wd_V wd_979 wd_980 wd_981 wd_5 (wd_c wd_982)) rfl rfl rfl dv_yX7_throneBy_1 ⟨Nat.le_of_ble_eq_true rfl, Nat.le_of_ble_eq_true rfl⟩) ⟨Pw.fb, recvX7 hK hP (q0 := 0) rfl, fun U hU hW => Pw.to (hP.ms _ hMs) (hD.ms _ hMs) (hK.ms [true, true, true, false] rfl) hE hS hFc hU hW⟩ rfl rfl hl.1 rfl (lv_room (Nat.le_of_ble_eq_true rfl)) dX7_turnOf_20 ⟨Nat.le_of_ble_eq_true rfl, Nat.le_of_ble_eq_true rfl⟩) hS (fun q _ h => hFc q h) hFc (fun r u t H locs ht hvm hw hB hz1 hk1 hS => ?_)
  have hru9 := hw.2
  have hw := hw.1
  obtain ⟨hP, hD⟩ := Bw.goN (ws' := [(oc7 oM iM_thrown rM_tape iM_taped iM_size iM_at iM_end iM_token iM_whole iM_nameSize iM_fault iM_place iM_trouble rM_letters iM_failed iM_hasCourt rM_r rM_fresh rM_told rM_read rM_st rM_undone rM_kept iM_undos iM_images rM_fresher iM_fresherSize iM_scale iM_night rM_heardRow rM_cutRow iM_breaths iM_cutMany iM_allBreaths rM_trial rM_words iM_fewestBreaths iM_orderMany iM_orderSum iM_leastOrder rM_often iM_setMany iM_someOf iM_allOf iM_allWeight iM_enoughWeight iM_worthSum iM_firstRest iM_leastDrawn), (arI rM_r kM_r 287 fM_r), (arI rM_told kM_told 90 fM_told), (arI rM_st kM_st 90 fM_st), (arI rM_trial kM_trial 90 f_2243)]) hB rfl ht hP hD _ hMs hk1 hFc rfl
  clear hz1 hk1 hvm ht hB hMs
  obtain ⟨x_2244, rfl⟩ : ∃ z, z = r := ⟨_, rfl⟩
  have hG := hG.trans (lt_eq hru9.symm)
  refine lv_istore_n (lv' := [(2, .int x_2244), (0, .ref oM), (1, .int p0)]) hx hb dX7_turnOf_23 rfl hl (by decide) rfl (fun ls hl => ?_)
  refine lv_iconst (v := 1) hx hb dX7_turnOf_24 (by decide) ?_
  refine lv_istore_n (lv' := [(3, .int 1), (2, .int x_2244), (0, .ref oM), (1, .int p0)]) hx hb dX7_turnOf_25 rfl hl (by decide) rfl (fun ls hl => ?_)
  have hl := lv_sub hl (l' := [(3, .int 1), (2, .int x_2244), (0, .ref oM), (1, .int p0)]) [0, 1, 2, 3] rfl
  have key_n_2247 : ∀ (n_2247 : Nat) (z_2245 : Int32) (f_2246 : Nat → Int32) (H : Heap) (locs : List Loc) (ls : Array Slot), (1 ≤ z_2245.toInt ∧ z_2245.toInt ≤ 100) → (RowOk fM_r f_2246) → (100 - z_2245.toInt).toNat < n_2247 → (PX7_turnOf fM_r fM_told fM_st iM_scale iM_night fM_trial p0 = HX7_turnOf_0 fM_r fM_told fM_st iM_scale iM_night p0 x_2244 n_2247 z_2245 f_2246) → va_P (dC, dI) vwCl [(oc7 oM iM_thrown rM_tape iM_taped iM_size iM_at iM_end iM_token iM_whole iM_nameSize iM_fault iM_place iM_trouble rM_letters iM_failed iM_hasCourt rM_r rM_fresh rM_told rM_read rM_st rM_undone rM_kept iM_undos iM_images rM_fresher iM_fresherSize iM_scale iM_night rM_heardRow rM_cutRow iM_breaths iM_cutMany iM_allBreaths rM_trial rM_words iM_fewestBreaths iM_orderMany iM_orderSum iM_leastOrder rM_often iM_setMany iM_someOf iM_allOf iM_allWeight iM_enoughWeight iM_worthSum iM_firstRest iM_leastDrawn), (arI rM_r kM_r 287 fM_r), (arI rM_told kM_told 90 fM_told), (arI rM_st kM_st 90 fM_st), (arI rM_trial kM_trial 90 f_2246)] H → va_D A [(oc7 oM iM_thrown rM_tape iM_taped iM_size iM_at iM_end iM_token iM_whole iM_nameSize iM_fault iM_place iM_trouble rM_letters iM_failed iM_hasCourt rM_r rM_fresh rM_told rM_read rM_st rM_undone rM_kept iM_undos iM_images rM_fresher iM_fresherSize iM_scale iM_night rM_heardRow rM_cutRow iM_breaths iM_cutMany iM_allBreaths rM_trial rM_words iM_fewestBreaths iM_orderMany iM_orderSum iM_leastOrder rM_often iM_setMany iM_someOf iM_allOf iM_allWeight iM_enoughWeight iM_worthSum iM_firstRest iM_leastDrawn), (arI rM_r kM_r 287 fM_r), (arI rM_told kM_told 90 fM_told), (arI rM_st kM_st 90 fM_st), (arI rM_trial kM_trial 90 f_2246)] → va_S A s.heap H locs → lv_has ls 5 [(3, .int z_2245), (2, .int x_2244), (0, .ref oM), (1, .int p0)] → W p l e (headSpec (Cond.code yX7_turnOf cX7_turnOf 5 (some .int) :: wG) ({ frames := 22, cells := 0, slots := 0, locals := 585 })).room s m ([.ref oM, .int p0] : List Value).toArray below meth c H locs 0 0 (MQ below (va_Qi (fun (r : Int32) (u : Nat) => (True ∧ True) ∧ r = Int32.ofNat u) (fun (u : Nat) (t : State) => ∃ (nfM_trial : Nat → Int32), (PX7_turnOf fM_r fM_told fM_st iM_scale iM_night fM_trial p0 = (Int32.ofNat u, nfM_trial)) ∧ Bw dC dI A [(oc7 oM iM_thrown rM_tape iM_taped iM_size iM_at iM_end iM_token iM_whole iM_nameSize iM_fault iM_place iM_trouble rM_letters iM_failed iM_hasCourt rM_r rM_fresh rM_told rM_read rM_st rM_undone rM_kept iM_undos iM_images rM_fresher iM_fresherSize iM_scale iM_night rM_heardRow rM_cutRow iM_breaths iM_cutMany iM_allBreaths rM_trial rM_words iM_fewestBreaths iM_orderMany iM_orderSum iM_leastOrder rM_often iM_setMany iM_someOf iM_allOf iM_allWeight iM_enoughWeight iM_worthSum iM_firstRest iM_leastDrawn), (arI rM_r kM_r 287 fM_r), (arI rM_told kM_told 90 fM_told), (arI rM_st kM_st 90 fM_st), (arI rM_trial kM_trial 90 nfM_trial)] [(kM_r, .int), (kM_told, .int), (kM_st, .int), (kM_trial, .int)] t) A) ([.ref oM, .int p0] : List Value).toArray s 0 0 A) (F0 m 26 ls []) := by
    intro n_2247
    induction n_2247 with
    | zero => intro z_2245 f_2246 H locs ls hi0_n_2247 hi1_n_2247 hm; exact absurd hm (Nat.not_lt_zero _)
    | succ n_2247 ih_n_2247 =>
      intro z_2245 f_2246 H locs ls hi0_n_2247 hi1_n_2247 hm_n_2247 hG hP hD hS hl
      have hG := hG.trans (HX7_turnOf_0_eq _ _ _ _ _ _ _ _ _ _)
      refine lv_iload_n hx hb dX7_turnOf_26 rfl (lv_at hl 0 rfl) ?_
      refine lv_bipush (v := 100) hx hb dX7_turnOf_27 (by decide) ?_
      refine lv_icmp_ge (tgt := 108) hx hb dX7_turnOf_29 (by decide) (fun c_2248 => ?_) (fun c_2248 => ?_)
      · skip
        have hG := hG.trans (if_pos c_2248)
        have gc_2248 := ti_le c_2248 kc_100 rfl
        refine lv_bipush (v := (-2)) hx hb dX7_turnOf_108 (by decide) ?_
        exact wq_i hx hb hr (cI (-2)) ⟨⟨trivial, trivial⟩, (cI_of (-2))⟩ (fun t ht hW => ⟨f_2246, (cI_tup hG), Bw.to hP hD hK ht hW⟩) hS dX7_turnOf_110 hlocks
      · skip
        have hG := hG.trans (if_neg c_2248)
        have gc_2248 := ti_nle c_2248 kc_100 rfl
        refine lv_iconst (v := (-1)) hx hb dX7_turnOf_32 (by decide) ?_
        refine lv_istore (lv' := [(4, .int (-1)), (3, .int z_2245), (2, .int x_2244), (0, .ref oM), (1, .int p0)]) hx hb dX7_turnOf_33 hl (by decide) rfl (fun ls hl => ?_)
        have hl := lv_sub hl (l' := [(4, .int (-1)), (3, .int z_2245), (2, .int x_2244), (0, .ref oM), (1, .int p0)]) [0, 1, 2, 3, 4] rfl
        have key_n_2251 : ∀ (n_2251 : Nat) (z_2249 : Int32) (f_2250 : Nat → Int32) (H : Heap) (locs : List Loc) (ls : Array Slot), ((-1) ≤ z_2249.toInt ∧ z_2249.toInt ≤ 3) → (RowOk fM_r f_2250) → (3 - z_2249.toInt).toNat < n_2251 → (PX7_turnOf fM_r fM_told fM_st iM_scale iM_night fM_trial p0 = HX7_turnOf_1 fM_r fM_told fM_st iM_scale iM_night p0 x_2244 z_2245 (fun (z_2245 : Int32) (f_2246 : Nat → Int32) => HX7_turnOf_0 fM_r fM_told fM_st iM_scale iM_night p0 x_2244 n_2247 z_2245 f_2246) n_2251 z_2249 f_2250) → va_P (dC, dI) vwCl [(oc7 oM iM_thrown rM_tape iM_taped iM_size iM_at iM_end iM_token iM_whole iM_nameSize iM_fault iM_place iM_trouble rM_letters iM_failed iM_hasCourt rM_r rM_fresh rM_told rM_read rM_st rM_undone rM_kept iM_undos iM_images rM_fresher iM_fresherSize iM_scale iM_night rM_heardRow rM_cutRow iM_breaths iM_cutMany iM_allBreaths rM_trial rM_words iM_fewestBreaths iM_orderMany iM_orderSum iM_leastOrder rM_often iM_setMany iM_someOf iM_allOf iM_allWeight iM_enoughWeight iM_worthSum iM_firstRest iM_leastDrawn), (arI rM_r kM_r 287 fM_r), (arI rM_told kM_told 90 fM_told), (arI rM_st kM_st 90 fM_st), (arI rM_trial kM_trial 90 f_2250)] H → va_D A [(oc7 oM iM_thrown rM_tape iM_taped iM_size iM_at iM_end iM_token iM_whole iM_nameSize iM_fault iM_place iM_trouble rM_letters iM_failed iM_hasCourt rM_r rM_fresh rM_told rM_read rM_st rM_undone rM_kept iM_undos iM_images rM_fresher iM_fresherSize iM_scale iM_night rM_heardRow rM_cutRow iM_breaths iM_cutMany iM_allBreaths rM_trial rM_words iM_fewestBreaths iM_orderMany iM_orderSum iM_leastOrder rM_often iM_setMany iM_someOf iM_allOf iM_allWeight iM_enoughWeight iM_worthSum iM_firstRest iM_leastDrawn), (arI rM_r kM_r 287 fM_r), (arI rM_told kM_told 90 fM_told), (arI rM_st kM_st 90 fM_st), (arI rM_trial kM_trial 90 f_2250)] → va_S A s.heap H locs → lv_has ls 5 [(4, .int z_2249), (3, .int z_2245), (2, .int x_2244), (0, .ref oM), (1, .int p0)] → W p l e (headSpec (Cond.code yX7_turnOf cX7_turnOf 5 (some .int) :: wG) ({ frames := 22, cells := 0, slots := 0, locals := 585 })).room s m ([.ref oM, .int p0] : List Value).toArray below meth c H locs 0 0 (MQ below (va_Qi (fun (r : Int32) (u : Nat) => (True ∧ True) ∧ r = Int32.ofNat u) (fun (u : Nat) (t : State) => ∃ (nfM_trial : Nat → Int32), (PX7_turnOf fM_r fM_told fM_st iM_scale iM_night fM_trial p0 = (Int32.ofNat u, nfM_trial)) ∧ Bw dC dI A [(oc7 oM iM_thrown rM_tape iM_taped iM_size iM_at iM_end iM_token iM_whole iM_nameSize iM_fault iM_place iM_trouble rM_letters iM_failed iM_hasCourt rM_r rM_fresh rM_told rM_read rM_st rM_undone rM_kept iM_undos iM_images rM_fresher iM_fresherSize iM_scale iM_night rM_heardRow rM_cutRow iM_breaths iM_cutMany iM_allBreaths rM_trial rM_words iM_fewestBreaths iM_orderMany iM_orderSum iM_leastOrder rM_often iM_setMany iM_someOf iM_allOf iM_allWeight iM_enoughWeight iM_worthSum iM_firstRest iM_leastDrawn), (arI rM_r kM_r 287 fM_r), (arI rM_told kM_told 90 fM_told), (arI rM_st kM_st 90 fM_st), (arI rM_trial kM_trial 90 nfM_trial)] [(kM_r, .int), (kM_told, .int), (kM_st, .int), (kM_trial, .int)] t) A) ([.ref oM, .int p0] : List Value).toArray s 0 0 A) (F0 m 35 ls []) := by
          intro n_2251
          induction n_2251 with
          | zero => intro z_2249 f_2250 H locs ls hi0_n_2251 hi1_n_2251 hm; exact absurd hm (Nat.not_lt_zero _)
          | succ n_2251 ih_n_2251 =>
            intro z_2249 f_2250 H locs ls hi0_n_2251 hi1_n_2251 hm_n_2251 hG hP hD hS hl
            have hG := hG.trans (HX7_turnOf_1_eq _ _ _ _ _ _ _ _ _ _ _ _)
            refine lv_iload hx hb dX7_turnOf_35 (lv_at hl 0 rfl) ?_
            refine lv_iconst (v := 2) hx hb dX7_turnOf_37 (by decide) ?_
            refine lv_icmp_ge (tgt := 102) hx hb dX7_turnOf_38 (by decide) (fun c_2252 => ?_) (fun c_2252 => ?_)
            · skip
              have hG := hG.trans (if_pos c_2252)
              have gc_2252 := ti_le c_2252 kc_2 rfl
              obtain ⟨x_2253, ex_2253⟩ : ∃ z : Int32, z = z_2245 + Int32.ofInt 1 := ⟨_, rfl⟩
              have hG := hG.trans (lt_eq ex_2253)
              have vx_2253 : x_2253.toInt = z_2245.toInt + 1 := ti_add (y := 1) ex_2253 rfl kc_1 (om_6872dcca hi0_n_2247.1) (om_710da995 hi0_n_2247.2)
              refine lv_iinc (v := x_2253) (lv' := [(3, .int x_2253), (4, .int z_2249), (2, .int x_2244), (0, .ref oM), (1, .int p0)]) hx hb dX7_turnOf_102 hl (k := 1) rfl ex_2253.symm (by decide) rfl (fun ls hl => ?_)
              refine lv_goto (tgt := 26) hx hb dX7_turnOf_105 (by decide) ?_
              exact ih_n_2247 x_2253 f_2250 _ _ _  ⟨(om_3b07fe9e hi0_n_2247.1 vx_2253), (om_e077b392 gc_2248 vx_2253)⟩ (by first | assumption | omega | decide) (ms_lt hm_n_2247 (om_e5849f50 vx_2253) (om_aedd0fe6 gc_2248)) hG hP hD hS (lv_sub hl [0, 2, 3, 4] rfl)
            · skip
              have hG := hG.trans (if_neg c_2252)
              have gc_2252 := ti_nle c_2252 kc_2 rfl
              refine lv_aload_n hx hb dX7_turnOf_41 rfl (lv_at hl 3 rfl) ?_
              refine va_get (D := (dC, dI)) (ci := 7) (v := .ref rM_trial) (C := RX7) (T := TX7) (N := 48) hx hb hts inX7 hown hK hP 0 rfl rfl 33 (by decide) (hts _ wd_167) (fun _ h9 => h9) rfl dX7_turnOf_42 ?_
              refine lv_bipush (v := 72) hx hb dX7_turnOf_45 (by decide) ?_
              refine lv_iload_n hx hb dX7_turnOf_47 rfl (lv_at hl 4 rfl) ?_
              refine lv_iadd hx hb dX7_turnOf_48 ?_
              refine lv_topi (fun x_2254 ex_2254 => ?_)
              have hG := hG.trans (lt_eq ex_2254)
              have vx_2254 : x_2254.toInt = p0.toInt + 72 := om_2d0716db (ti_add ex_2254 kc_72 rfl (om_7e97233d hk0.1) (om_f5ef1b4a hk0.2 s_nodes.2))
              refine lv_aload_n hx hb dX7_turnOf_49 rfl (lv_at hl 3 rfl) ?_
              refine va_get (D := (dC, dI)) (ci := 7) (v := .ref rM_st) (C := RX7) (T := TX7) (N := 48) hx hb hts inX7 hown hK hP 0 rfl rfl 19 (by decide) (hts _ wd_159) (fun _ h9 => h9) rfl dX7_turnOf_50 ?_
              refine lv_bipush (v := 72) hx hb dX7_turnOf_53 (by decide) ?_
              refine lv_iload_n hx hb dX7_turnOf_55 rfl (lv_at hl 4 rfl) ?_
              refine lv_iadd hx hb dX7_turnOf_56 ?_
              refine lv_topi (fun x_2255 ex_2255 => ?_)
              have hG := hG.trans (lt_eq ex_2255)
              have vx_2255 : x_2255.toInt = p0.toInt + 72 := om_2d0716db (ti_add ex_2255 kc_72 rfl (om_7e97233d hk0.1) (om_f5ef1b4a hk0.2 s_nodes.2))
              refine va_iald hx hb hK hP 3 2 rfl rfl (ti_in vx_2255 (om_2ad8b1ab hk0.1) (om_311d1202 hk0.2 s_nodes.2)) dX7_turnOf_57 ?_
              refine lv_topi (fun x_2256 ex_2256 => ?_)
              have hG := hG.trans (lt_eq ex_2256)
              have kx_2256 : (fM_st x_2255.toNatClampNeg).toInt = x_2256.toInt := by rw [ex_2256]
              have cx_2256 : (fM_st (72 + p0.toNatClampNeg)).toInt = x_2256.toInt := by rw [show 72 + p0.toNatClampNeg = x_2255.toNatClampNeg from (om_cbf191f8 (ti_cl (x := p0) rfl hk0.1) (ti_cl (x := x_2255) vx_2255 (om_2ad8b1ab hk0.1)))]; exact kx_2256
              refine lv_iload hx hb dX7_turnOf_58 (lv_at hl 0 rfl) ?_
              refine lv_iload_n hx hb dX7_turnOf_60 rfl (lv_at hl 1 rfl) ?_
              refine lv_imul hx hb dX7_turnOf_61 ?_
              refine lv_topi (fun x_2257 ex_2257 => ?_)
              have hG := hG.trans (lt_eq ex_2257)
              refine lv_iadd hx hb dX7_turnOf_62 ?_
              refine lv_topi (fun x_2258 ex_2258 => ?_)
              have hG := hG.trans (lt_eq ex_2258)
              refine va_iast hx hb hK hP hD hS 4 3 rfl rfl (ti_in vx_2254 (om_2ad8b1ab hk0.1) (om_311d1202 hk0.2 s_nodes.2)) dX7_turnOf_63 (fun H locs hP hD hS => ?_)
              obtain ⟨f_2259, ef_2259⟩ : ∃ g : Nat → Int32, g = upd f_2250 x_2254.toNatClampNeg x_2258 := ⟨_, rfl⟩
              rw [← ef_2259] at hP hD
              have hG := hG.trans (lt_eq ef_2259)
              obtain ⟨hP, hD⟩ := wl2 (ws' := [(oc7 oM iM_thrown rM_tape iM_taped iM_size iM_at iM_end iM_token iM_whole iM_nameSize iM_fault iM_place iM_trouble rM_letters iM_failed iM_hasCourt rM_r rM_fresh rM_told rM_read rM_st rM_undone rM_kept iM_undos iM_images rM_fresher iM_fresherSize iM_scale iM_night rM_heardRow rM_cutRow iM_breaths iM_cutMany iM_allBreaths rM_trial rM_words iM_fewestBreaths iM_orderMany iM_orderSum iM_leastOrder rM_often iM_setMany iM_someOf iM_allOf iM_allWeight iM_enoughWeight iM_worthSum iM_firstRest iM_leastDrawn), (arI rM_r kM_r 287 fM_r), (arI rM_told kM_told 90 fM_told), (arI rM_st kM_st 90 fM_st), (arI rM_trial kM_trial 90 f_2259)]) hP hD rfl
              have r_f_2259 : RowOk fM_r f_2259 := RowOk.hi r_R hi1_n_2251 ef_2259 (by have q9 := ti_cl (x := x_2254) vx_2254 (om_2ad8b1ab hk0.1); omega)
              refine lv_aload_n hx hb dX7_turnOf_64 rfl (lv_at hl 3 rfl) ?_
              refine va_get (D := (dC, dI)) (ci := 7) (v := .ref rM_trial) (C := RX7) (T := TX7) (N := 48) hx hb hts inX7 hown hK hP 0 rfl rfl 33 (by decide) (hts _ wd_167) (fun _ h9 => h9) rfl dX7_turnOf_65 ?_
              refine lv_bipush (v := 72) hx hb dX7_turnOf_68 (by decide) ?_
              refine lv_iload_n hx hb dX7_turnOf_70 rfl (lv_at hl 4 rfl) ?_
              refine lv_iadd hx hb dX7_turnOf_71 ?_
              refine lv_topi (fun x_2260 ex_2260 => ?_)
              have hG := hG.trans (lt_eq ex_2260)
              have vx_2260 : x_2260.toInt = p0.toInt + 72 := om_2d0716db (ti_add ex_2260 kc_72 rfl (om_7e97233d hk0.1) (om_f5ef1b4a hk0.2 s_nodes.2))
              refine va_iald hx hb hK hP 4 3 rfl rfl (ti_in vx_2260 (om_2ad8b1ab hk0.1) (om_311d1202 hk0.2 s_nodes.2)) dX7_turnOf_72 ?_
              refine lv_topi (fun x_2261 ex_2261 => ?_)
              have hG := hG.trans (lt_eq ex_2261)
              have kx_2261 : (f_2259 x_2260.toNatClampNeg).toInt = x_2261.toInt := by rw [ex_2261]
              have cx_2261 : (f_2259 (72 + p0.toNatClampNeg)).toInt = x_2261.toInt := by rw [show 72 + p0.toNatClampNeg = x_2260.toNatClampNeg from (om_cbf191f8 (ti_cl (x := p0) rfl hk0.1) (ti_cl (x := x_2260) vx_2260 (om_2ad8b1ab hk0.1)))]; exact kx_2261
              refine lv_iconst (v := 0) hx hb dX7_turnOf_73 (by decide) ?_
              refine lv_bipush (v := 99) hx hb dX7_turnOf_74 (by decide) ?_
              have hFc : ∀ q, va_A [] _ q → A q := fun q h => hA q (Nat.le_trans hS.1 (va_nilA h))
              refine va_calli (va_runS (As := [.int x_2261, .int 0, .int 99]) (rest := []) ⟨hx, hb, hml, hown, hts⟩ (tX7_in l dC dI _ x_2261 0 99 ) (va_cwS 3 hts (wd_S wd_393 wd_394 wd_5 (wd_c wd_395)) rfl rfl rfl ds_yX7_in_3 ⟨Nat.le_of_ble_eq_true rfl, Nat.le_of_ble_eq_true rfl⟩) ⟨Pw.fb, fun U hU hW => Pn.to hK hE hS hA hU hW⟩ rfl rfl hl.1 rfl (lv_room (Nat.le_of_ble_eq_true rfl)) dX7_turnOf_76 ⟨Nat.le_of_ble_eq_true rfl, Nat.le_of_ble_eq_true rfl⟩) hS (fun q _ h => hFc q h) hFc (fun r u t H locs ht hvm hw hB hz1 hk1 hS => ?_)
              obtain ⟨hP, hD, hK⟩ := Bw.same ht hvm hP hD hK hk1 hFc
              clear hz1 hk1 hvm ht hB
              have hq9 := hw.2
              have hw := hw.1
              obtain ⟨x_2262, rfl⟩ : ∃ z, z = r := ⟨_, rfl⟩
              have hq_x_2262 := hq9
              have hG := hG.trans (lt_eq hq_x_2262.symm)
              have bx_2262 := hw.1
              have dx_2262 := bz_tb bx_2262
              have px_2262 := hw.2
              rcases px_2262 with ⟨gx_2262, hx_2262⟩ | ⟨gx_2262, hx_2262⟩
              · skip
                have l9x_2262 := kc_0
                have m9x_2262 := kc_99
                refine lv_if_eq (tgt := 96) hx hb dX7_turnOf_79 (by decide) (fun c_2263 => ?_) (fun c_2263 => ?_)
                · skip
                  have hG := hG.trans (if_pos c_2263)
                  have gc_2263 := ti_eq c_2263 rfl kc_0
                  exfalso; clear hG; omega
                · skip
                  have hG := hG.trans (if_neg c_2263)
                  have gc_2263 := ti_ne c_2263 rfl kc_0
                  refine lv_aload_n hx hb dX7_turnOf_82 rfl (lv_at hl 3 rfl) ?_
                  refine lv_aload_n hx hb dX7_turnOf_83 rfl (lv_at hl 3 rfl) ?_
                  refine va_get (D := (dC, dI)) (ci := 7) (v := .ref rM_trial) (C := RX7) (T := TX7) (N := 48) hx hb hts inX7 hown hK hP 0 rfl rfl 33 (by decide) (hts _ wd_167) (fun _ h9 => h9) rfl dX7_turnOf_84 ?_
                  have hMs := ml_of hD [true, true, true, false, true] (wc := [(oc7 oM iM_thrown rM_tape iM_taped iM_size iM_at iM_end iM_token iM_whole iM_nameSize iM_fault iM_place iM_trouble rM_letters iM_failed iM_hasCourt rM_r rM_fresh rM_told rM_read rM_st rM_undone rM_kept iM_undos iM_images rM_fresher iM_fresherSize iM_scale iM_night rM_heardRow rM_cutRow iM_breaths iM_cutMany iM_allBreaths rM_trial rM_words iM_fewestBreaths iM_orderMany iM_orderSum iM_leastOrder rM_often iM_setMany iM_someOf iM_allOf iM_allWeight iM_enoughWeight iM_worthSum iM_firstRest iM_leastDrawn), (arI rM_r kM_r 287 fM_r), (arI rM_told kM_told 90 fM_told), (arI rM_trial kM_trial 90 f_2259)]) rfl
                  have hFc := va_freeM hD hS hA _ hMs
                  refine va_calli (va_runV (As := [.ref rM_trial]) (rest := []) ⟨hx, hb, hml, hown, hts⟩ (tX7_throneBy l dC dI _ oM iM_thrown rM_tape iM_taped iM_size iM_at iM_end iM_token iM_whole iM_nameSize iM_fault iM_place iM_trouble rM_letters iM_failed iM_hasCourt rM_r fM_r kM_r rM_fresh rM_told fM_told kM_told rM_read rM_st rM_undone rM_kept iM_undos iM_images rM_fresher iM_fresherSize iM_scale iM_night rM_heardRow rM_cutRow iM_breaths iM_cutMany iM_allBreaths rM_trial rM_words iM_fewestBreaths iM_orderMany iM_orderSum iM_leastOrder rM_often iM_setMany iM_someOf iM_allOf iM_allWeight iM_enoughWeight iM_worthSum iM_firstRest iM_leastDrawn rM_trial f_2259 kM_trial b_iM_taped b_iM_size b_iM_end b_iM_failed b_iM_hasCourt b_iM_undos b_iM_images b_iM_scale b_iM_breaths b_iM_cutMany (by assumption) (by assumption) (by assumption) (by assumption) ⟨hth.1, hth.2⟩) (cwV 1 hts (wd_V wd_979 wd_980 wd_981 wd_5 (wd_c wd_982)) rfl rfl rfl dv_yX7_throneBy_1 ⟨Nat.le_of_ble_eq_true rfl, Nat.le_of_ble_eq_true rfl⟩) ⟨Pw.fb, recvX7 hK hP (q0 := 0) rfl, fun U hU hW => Pw.to (hP.ms _ hMs) (hD.ms _ hMs) (hK.ms [true, true, false, true] rfl) hE hS hFc hU hW⟩ rfl rfl hl.1 rfl (lv_room (Nat.le_of_ble_eq_true rfl)) dX7_turnOf_87 ⟨Nat.le_of_ble_eq_true rfl, Nat.le_of_ble_eq_true rfl⟩) hS (fun q _ h => hFc q h) hFc (fun r u t H locs ht hvm hw hB hz1 hk1 hS => ?_)
                  have hru9 := hw.2
                  have hw := hw.1
                  obtain ⟨hP, hD⟩ := Bw.goN (ws' := [(oc7 oM iM_thrown rM_tape iM_taped iM_size iM_at iM_end iM_token iM_whole iM_nameSize iM_fault iM_place iM_trouble rM_letters iM_failed iM_hasCourt rM_r rM_fresh rM_told rM_read rM_st rM_undone rM_kept iM_undos iM_images rM_fresher iM_fresherSize iM_scale iM_night rM_heardRow rM_cutRow iM_breaths iM_cutMany iM_allBreaths rM_trial rM_words iM_fewestBreaths iM_orderMany iM_orderSum iM_leastOrder rM_often iM_setMany iM_someOf iM_allOf iM_allWeight iM_enoughWeight iM_worthSum iM_firstRest iM_leastDrawn), (arI rM_r kM_r 287 fM_r), (arI rM_told kM_told 90 fM_told), (arI rM_st kM_st 90 fM_st), (arI rM_trial kM_trial 90 f_2259)]) hB rfl ht hP hD _ hMs hk1 hFc rfl
                  clear hz1 hk1 hvm ht hB hMs
                  obtain ⟨x_2264, rfl⟩ : ∃ z, z = r := ⟨_, rfl⟩
                  have hG := hG.trans (lt_eq hru9.symm)
                  refine lv_iload_n hx hb dX7_turnOf_90 rfl (lv_at hl 2 rfl) ?_
                  refine lv_icmp_eq (tgt := 96) hx hb dX7_turnOf_91 (by decide) (fun c_2265 => ?_) (fun c_2265 => ?_)
                  · skip
                    have hG := hG.trans (if_pos c_2265)
                    have gc_2265 := ti_eq c_2265 rfl rfl
                    obtain ⟨x_2266, ex_2266⟩ : ∃ z : Int32, z = z_2249 + Int32.ofInt 2 := ⟨_, rfl⟩
                    have hG := hG.trans (lt_eq ex_2266)
                    have vx_2266 : x_2266.toInt = z_2249.toInt + 2 := ti_add (y := 2) ex_2266 rfl kc_2 (om_980bf2f9 hi0_n_2251.1) (om_494348b2 hi0_n_2251.2)
                    refine lv_iinc (v := x_2266) (lv' := [(4, .int x_2266), (3, .int z_2245), (2, .int x_2244), (0, .ref oM), (1, .int p0)]) hx hb dX7_turnOf_96 hl (k := 0) rfl ex_2266.symm (by decide) rfl (fun ls hl => ?_)
                    refine lv_goto (tgt := 35) hx hb dX7_turnOf_99 (by decide) ?_
                    exact ih_n_2251 x_2266 f_2259 _ _ _  ⟨(om_d5601802 hi0_n_2251.1 vx_2266), (om_93849e10 gc_2252 vx_2266)⟩ (by first | assumption | omega | decide) (ms_lt hm_n_2251 (om_230aefbf vx_2266) (om_5e41bb97 gc_2252)) hG hP hD hS (lv_sub hl [0, 1, 2, 3, 4] rfl)
                  · skip
                    have hG := hG.trans (if_neg c_2265)
                    have gc_2265 := ti_ne c_2265 rfl rfl
                    refine lv_iload_n hx hb dX7_turnOf_94 rfl (lv_at hl 1 rfl) ?_
                    exact wq_i hx hb hr (cI z_2245) ⟨⟨trivial, trivial⟩, (cI_of z_2245)⟩ (fun t ht hW => ⟨f_2259, (cI_tup hG), Bw.to hP hD hK ht hW⟩) hS dX7_turnOf_95 hlocks
              · skip
                have l9x_2262 := kc_0
                have m9x_2262 := kc_99
                refine lv_if_eq (tgt := 96) hx hb dX7_turnOf_79 (by decide) (fun c_2267 => ?_) (fun c_2267 => ?_)
                · skip
                  have hG := hG.trans (if_pos c_2267)
                  have gc_2267 := ti_eq c_2267 rfl kc_0
                  obtain ⟨x_2268, ex_2268⟩ : ∃ z : Int32, z = z_2249 + Int32.ofInt 2 := ⟨_, rfl⟩
                  have hG := hG.trans (lt_eq ex_2268)
                  have vx_2268 : x_2268.toInt = z_2249.toInt + 2 := ti_add (y := 2) ex_2268 rfl kc_2 (om_980bf2f9 hi0_n_2251.1) (om_494348b2 hi0_n_2251.2)
                  refine lv_iinc (v := x_2268) (lv' := [(4, .int x_2268), (3, .int z_2245), (2, .int x_2244), (0, .ref oM), (1, .int p0)]) hx hb dX7_turnOf_96 hl (k := 0) rfl ex_2268.symm (by decide) rfl (fun ls hl => ?_)
                  refine lv_goto (tgt := 35) hx hb dX7_turnOf_99 (by decide) ?_
                  exact ih_n_2251 x_2268 f_2259 _ _ _  ⟨(om_d5601802 hi0_n_2251.1 vx_2268), (om_93849e10 gc_2252 vx_2268)⟩ (by first | assumption | omega | decide) (ms_lt hm_n_2251 (om_230aefbf vx_2268) (om_5e41bb97 gc_2252)) hG hP hD hS (lv_sub hl [0, 1, 2, 3, 4] rfl)
                · skip
                  have hG := hG.trans (if_neg c_2267)
                  have gc_2267 := ti_ne c_2267 rfl kc_0
                  exfalso; clear hG; omega
        exact key_n_2251 (((3 - (-1 : Int32).toInt).toNat) + 1) (-1) f_2246 _ _ _  ⟨(om_05aad589 kc_m1), (om_dd448aec kc_m1)⟩ (by first | assumption | omega | decide) (Nat.lt_add_one _) hG hP hD hS hl
  exact key_n_2247 (((100 - (1 : Int32).toInt).toNat) + 1) 1 f_2243 _ _ _  ⟨(om_c083232f kc_1), (om_c195dea7 kc_1)⟩ (by first | assumption | omega | decide) (Nat.lt_add_one _) hG hP hD hS hl
set_option maxHeartbeats 4000000 in
set_option maxRecDepth 100000 in
theorem tX7_turn (l : Launch) (dC : Nat → ClassId) (dI : Nat → Nat → Nat) (sz : Nat) (oM : Nat) (iM_thrown : Int32) (rM_tape : Nat) (iM_taped : Int32) (iM_size : Int32) (iM_at : Int32) (iM_end : Int32) (iM_token : Int32) (iM_whole : Int32) (iM_nameSize : Int32) (iM_fault : Int32) (iM_place : Int32) (iM_trouble : Int32) (rM_letters : Nat) (iM_failed : Int32) (iM_hasCourt : Int32) (rM_r : Nat) (fM_r : Nat → Int32) (kM_r : ClassId) (rM_fresh : Nat) (rM_told : Nat) (fM_told : Nat → Int32) (kM_told : ClassId) (rM_read : Nat) (rM_st : Nat) (fM_st : Nat → Int32) (kM_st : ClassId) (rM_undone : Nat) (rM_kept : Nat) (iM_undos : Int32) (iM_images : Int32) (rM_fresher : Nat) (iM_fresherSize : Int32) (iM_scale : Int32) (iM_night : Int32) (rM_heardRow : Nat) (rM_cutRow : Nat) (iM_breaths : Int32) (iM_cutMany : Int32) (iM_allBreaths : Int32) (rM_trial : Nat) (fM_trial : Nat → Int32) (kM_trial : ClassId) (rM_words : Nat) (iM_fewestBreaths : Int32) (iM_orderMany : Int32) (iM_orderSum : Int32) (iM_leastOrder : Int32) (rM_often : Nat) (iM_setMany : Int32) (iM_someOf : Int32) (iM_allOf : Int32) (iM_allWeight : Int64) (iM_enoughWeight : Int64) (iM_worthSum : Int64) (iM_firstRest : Int32) (iM_leastDrawn : Int32) (p0 : Int32) (b_iM_taped : 0 ≤ iM_taped.toInt ∧ iM_taped.toInt ≤ 900) (b_iM_size : 0 ≤ iM_size.toInt ∧ iM_size.toInt ≤ 900) (b_iM_end : 0 ≤ iM_end.toInt ∧ iM_end.toInt ≤ 900) (b_iM_failed : 0 ≤ iM_failed.toInt ∧ iM_failed.toInt ≤ 1) (b_iM_hasCourt : 0 ≤ iM_hasCourt.toInt ∧ iM_hasCourt.toInt ≤ 1) (b_iM_undos : 0 ≤ iM_undos.toInt ∧ iM_undos.toInt ≤ 16) (b_iM_images : 0 ≤ iM_images.toInt ∧ iM_images.toInt ≤ 3) (b_iM_scale : 1 ≤ iM_scale.toInt ∧ iM_scale.toInt ≤ 1296) (b_iM_breaths : 0 ≤ iM_breaths.toInt ∧ iM_breaths.toInt ≤ 399) (b_iM_cutMany : 0 ≤ iM_cutMany.toInt ∧ iM_cutMany.toInt ≤ 399) (r_R : ROk fM_r) (r_C : iM_hasCourt.toInt ≤ 0 ∨ (1 ≤ (fM_r 1).toInt ∧ 0 ≤ (fM_r 6).toInt ∧ (fM_r 6).toInt < (fM_r 1).toInt)) (r_st : RowOk fM_r fM_st) (r_told : RowOk fM_r fM_told) (r_wst : WorOk fM_st)  : Met l yX7_turn (Cond.code yX7_turn cX7_turn 2 (some .int) :: wG) ({ frames := 23, cells := 0, slots := 0, locals := 609 }) (va_Pc [.ref oM, .int p0] (Pw dC dI sz [(oc7 oM iM_thrown rM_tape iM_taped iM_size iM_at iM_end iM_token iM_whole iM_nameSize iM_fault iM_place iM_trouble rM_letters iM_failed iM_hasCourt rM_r rM_fresh rM_told rM_read rM_st rM_undone rM_kept iM_undos iM_images rM_fresher iM_fresherSize iM_scale iM_night rM_heardRow rM_cutRow iM_breaths iM_cutMany iM_allBreaths rM_trial rM_words iM_fewestBreaths iM_orderMany iM_orderSum iM_leastOrder rM_often iM_setMany iM_someOf iM_allOf iM_allWeight iM_enoughWeight iM_worthSum iM_firstRest iM_leastDrawn), (arI rM_r kM_r 287 fM_r), (arI rM_told kM_told 90 fM_told), (arI rM_st kM_st 90 fM_st), (arI rM_trial kM_trial 90 fM_trial)] [(kM_r, .int), (kM_told, .int), (kM_st, .int), (kM_trial, .int)])) (va_Qi (fun (r : Int32) (u : Nat) => (True ∧ True) ∧ r = Int32.ofNat u) (fun (u : Nat) (t : State) => ∃ (niM_thrown : Int32) (niM_trouble : Int32) (nfM_trial : Nat → Int32), (PX7_turn iM_hasCourt fM_r fM_told fM_st iM_scale iM_night fM_trial p0 = (Int32.ofNat u, niM_thrown, niM_trouble, nfM_trial)) ∧ Bw dC dI (va_A [(oc7 oM iM_thrown rM_tape iM_taped iM_size iM_at iM_end iM_token iM_whole iM_nameSize iM_fault iM_place iM_trouble rM_letters iM_failed iM_hasCourt rM_r rM_fresh rM_told rM_read rM_st rM_undone rM_kept iM_undos iM_images rM_fresher iM_fresherSize iM_scale iM_night rM_heardRow rM_cutRow iM_breaths iM_cutMany iM_allBreaths rM_trial rM_words iM_fewestBreaths iM_orderMany iM_orderSum iM_leastOrder rM_often iM_setMany iM_someOf iM_allOf iM_allWeight iM_enoughWeight iM_worthSum iM_firstRest iM_leastDrawn), (arI rM_r kM_r 287 fM_r), (arI rM_told kM_told 90 fM_told), (arI rM_st kM_st 90 fM_st), (arI rM_trial kM_trial 90 fM_trial)] sz) [(oc7 oM niM_thrown rM_tape iM_taped iM_size iM_at iM_end iM_token iM_whole iM_nameSize iM_fault iM_place niM_trouble rM_letters iM_failed iM_hasCourt rM_r rM_fresh rM_told rM_read rM_st rM_undone rM_kept iM_undos iM_images rM_fresher iM_fresherSize iM_scale iM_night rM_heardRow rM_cutRow iM_breaths iM_cutMany iM_allBreaths rM_trial rM_words iM_fewestBreaths iM_orderMany iM_orderSum iM_leastOrder rM_often iM_setMany iM_someOf iM_allOf iM_allWeight iM_enoughWeight iM_worthSum iM_firstRest iM_leastDrawn), (arI rM_r kM_r 287 fM_r), (arI rM_told kM_told 90 fM_told), (arI rM_st kM_st 90 fM_st), (arI rM_trial kM_trial 90 nfM_trial)] [(kM_r, .int), (kM_told, .int), (kM_st, .int), (kM_trial, .int)] t) (va_A [(oc7 oM iM_thrown rM_tape iM_taped iM_size iM_at iM_end iM_token iM_whole iM_nameSize iM_fault iM_place iM_trouble rM_letters iM_failed iM_hasCourt rM_r rM_fresh rM_told rM_read rM_st rM_undone rM_kept iM_undos iM_images rM_fresher iM_fresherSize iM_scale iM_night rM_heardRow rM_cutRow iM_breaths iM_cutMany iM_allBreaths rM_trial rM_words iM_fewestBreaths iM_orderMany iM_orderSum iM_leastOrder rM_often iM_setMany iM_someOf iM_allOf iM_allWeight iM_enoughWeight iM_worthSum iM_firstRest iM_leastDrawn), (arI rM_r kM_r 287 fM_r), (arI rM_told kM_told 90 fM_told), (arI rM_st kM_st 90 fM_st), (arI rM_trial kM_trial 90 fM_trial)] sz)) 0 0 (va_A [(oc7 oM iM_thrown rM_tape iM_taped iM_size iM_at iM_end iM_token iM_whole iM_nameSize iM_fault iM_place iM_trouble rM_letters iM_failed iM_hasCourt rM_r rM_fresh rM_told rM_read rM_st rM_undone rM_kept iM_undos iM_images rM_fresher iM_fresherSize iM_scale iM_night rM_heardRow rM_cutRow iM_breaths iM_cutMany iM_allBreaths rM_trial rM_words iM_fewestBreaths iM_orderMany iM_orderSum iM_leastOrder rM_often iM_setMany iM_someOf iM_allOf iM_allWeight iM_enoughWeight iM_worthSum iM_firstRest iM_leastDrawn), (arI rM_r kM_r 287 fM_r), (arI rM_told kM_told 90 fM_told), (arI rM_st kM_st 90 fM_st), (arI rM_trial kM_trial 90 fM_trial)] sz) := by
  refine Met.ofW (cc := cX7_turn) (maxL := 2) (ret := (some .int)) pnX7 rfl ?_
  intro p e s m args below meth c s₁ B hml hv
  obtain ⟨rfl, hsz, hP, hK, hD0, hE⟩ := hv
  have hx := B.exec
  have hb := B.bytes
  have hr := B.returns
  have hts : ∀ w ∈ wG, w.before ([.ref oM, .int p0] : List Value).toArray s = true := fun w h => atoms_spec (ws := Cond.code yX7_turn cX7_turn 2 (some .int) :: wG) B.pre w (List.mem_cons_of_mem _ h)
  have hown : s.vm.findClass RX7 = some m.cls := own_of B.named rfl
  have hlocks := B.notSynchronized
  subst hsz
  have hD := hD0.self (sz := s.heap.size)
  generalize hAe : va_A [(oc7 oM iM_thrown rM_tape iM_taped iM_size iM_at iM_end iM_token iM_whole iM_nameSize iM_fault iM_place iM_trouble rM_letters iM_failed iM_hasCourt rM_r rM_fresh rM_told rM_read rM_st rM_undone rM_kept iM_undos iM_images rM_fresher iM_fresherSize iM_scale iM_night rM_heardRow rM_cutRow iM_breaths iM_cutMany iM_allBreaths rM_trial rM_words iM_fewestBreaths iM_orderMany iM_orderSum iM_leastOrder rM_often iM_setMany iM_someOf iM_allOf iM_allWeight iM_enoughWeight iM_worthSum iM_firstRest iM_leastDrawn), (arI rM_r kM_r 287 fM_r), (arI rM_told kM_told 90 fM_told), (arI rM_st kM_st 90 fM_st), (arI rM_trial kM_trial 90 fM_trial)] s.heap.size = A at hD hE ⊢
  have hA : ∀ q : Nat, s.heap.size ≤ q → A q := fun q h => by rw [← hAe]; exact Or.inr h
  have hS : va_S A s.heap s.heap [] := va_S.rf
  have hl := lv_entry ([.ref oM, .int p0]) (n := 2) (Nat.le_of_ble_eq_true rfl)
  rw [lg_entry_eq]
  generalize (lg_sl ([.ref oM, .int p0]) ++ List.replicate (2 - (lg_sl ([.ref oM, .int p0])).length) Slot.unset).toArray = ls at hl ⊢
  have hl : lv_has ls 2 [(0, .ref oM), (1, .int p0)] := hl
  have hG := PX7_turn_eq iM_hasCourt fM_r fM_told fM_st iM_scale iM_night fM_trial p0
  have s_slips := r_R.slips
  have s_nodes := r_R.nodes
  have s_uns := r_R.uns
  refine lv_aload_n hx hb dX7_turn_0 rfl (lv_at hl 0 rfl) ?_
  have hMs := ml_of hD [true, false, false, false, false] (wc := [(oc7 oM iM_thrown rM_tape iM_taped iM_size iM_at iM_end iM_token iM_whole iM_nameSize iM_fault iM_place iM_trouble rM_letters iM_failed iM_hasCourt rM_r rM_fresh rM_told rM_read rM_st rM_undone rM_kept iM_undos iM_images rM_fresher iM_fresherSize iM_scale iM_night rM_heardRow rM_cutRow iM_breaths iM_cutMany iM_allBreaths rM_trial rM_words iM_fewestBreaths iM_orderMany iM_orderSum iM_leastOrder rM_often iM_setMany iM_someOf iM_allOf iM_allWeight iM_enoughWeight iM_worthSum iM_firstRest iM_leastDrawn)]) rfl
  have hFc := va_freeM hD hS hA _ hMs
  refine va_callv (va_runV (As := []) (rest := []) ⟨hx, hb, hml, hown, hts⟩ (tX7_good l dC dI _ oM iM_thrown rM_tape iM_taped iM_size iM_at iM_end iM_token iM_whole iM_nameSize iM_fault iM_place iM_trouble rM_letters iM_failed iM_hasCourt rM_r rM_fresh rM_told rM_read rM_st rM_undone rM_kept iM_undos iM_images rM_fresher iM_fresherSize iM_scale iM_night rM_heardRow rM_cutRow iM_breaths iM_cutMany iM_allBreaths rM_trial rM_words iM_fewestBreaths iM_orderMany iM_orderSum iM_leastOrder rM_often iM_setMany iM_someOf iM_allOf iM_allWeight iM_enoughWeight iM_worthSum iM_firstRest iM_leastDrawn b_iM_taped b_iM_size b_iM_end b_iM_failed b_iM_hasCourt b_iM_undos b_iM_images b_iM_scale b_iM_breaths b_iM_cutMany) (cwV 0 hts (wd_V wd_388 wd_389 wd_390 wd_5 (wd_c wd_391)) rfl rfl rfl dv_yX7_good_0 ⟨Nat.le_of_ble_eq_true rfl, Nat.le_of_ble_eq_true rfl⟩) ⟨Pw.fb, recvX7 hK hP (q0 := 0) rfl, fun U hU hW => Pw.to (hP.ms _ hMs) (hD.ms _ hMs) (hK.ms [false, false, false, false] rfl) hE hS hFc hU hW⟩ rfl rfl hl.1 rfl (lv_room (Nat.le_of_ble_eq_true rfl)) dX7_turn_1 ⟨Nat.le_of_ble_eq_true rfl, Nat.le_of_ble_eq_true rfl⟩) hS (fun q _ h => hFc q h) hFc (fun u t H locs ht hvm hw hB hz1 hk1 hS => ?_)
  refine ex_2_3 hB (fun x_2278 x_2279 b_x_2278 b_x_2279 e_x_2278_0 hB => ?_)
  obtain ⟨hP, hD⟩ := Bw.goN (ws' := [(oc7 oM x_2278 rM_tape iM_taped iM_size iM_at iM_end iM_token iM_whole iM_nameSize iM_fault iM_place x_2279 rM_letters iM_failed iM_hasCourt rM_r rM_fresh rM_told rM_read rM_st rM_undone rM_kept iM_undos iM_images rM_fresher iM_fresherSize iM_scale iM_night rM_heardRow rM_cutRow iM_breaths iM_cutMany iM_allBreaths rM_trial rM_words iM_fewestBreaths iM_orderMany iM_orderSum iM_leastOrder rM_often iM_setMany iM_someOf iM_allOf iM_allWeight iM_enoughWeight iM_worthSum iM_firstRest iM_leastDrawn), (arI rM_r kM_r 287 fM_r), (arI rM_told kM_told 90 fM_told), (arI rM_st kM_st 90 fM_st), (arI rM_trial kM_trial 90 fM_trial)]) hB rfl ht hP hD _ hMs hk1 hFc rfl
  clear hz1 hk1 hvm ht hB hMs
  have hG := hG.trans (un2_eq e_x_2278_0)
  refine lv_aload_n hx hb dX7_turn_4 rfl (lv_at hl 0 rfl) ?_
  refine lv_iload_n hx hb dX7_turn_5 rfl (lv_at hl 1 rfl) ?_
  have hMs := ml_of hD [true, true, false, false, false] (wc := [(oc7 oM x_2278 rM_tape iM_taped iM_size iM_at iM_end iM_token iM_whole iM_nameSize iM_fault iM_place x_2279 rM_letters iM_failed iM_hasCourt rM_r rM_fresh rM_told rM_read rM_st rM_undone rM_kept iM_undos iM_images rM_fresher iM_fresherSize iM_scale iM_night rM_heardRow rM_cutRow iM_breaths iM_cutMany iM_allBreaths rM_trial rM_words iM_fewestBreaths iM_orderMany iM_orderSum iM_leastOrder rM_often iM_setMany iM_someOf iM_allOf iM_allWeight iM_enoughWeight iM_worthSum iM_firstRest iM_leastDrawn), (arI rM_r kM_r 287 fM_r)]) rfl
  have hFc := va_freeM hD hS hA _ hMs
  refine va_calli (va_runV (As := [.int p0]) (rest := []) ⟨hx, hb, hml, hown, hts⟩ (tX7_isWordNode l dC dI _ oM x_2278 rM_tape iM_taped iM_size iM_at iM_end iM_token iM_whole iM_nameSize iM_fault iM_place x_2279 rM_letters iM_failed iM_hasCourt rM_r fM_r kM_r rM_fresh rM_told rM_read rM_st rM_undone rM_kept iM_undos iM_images rM_fresher iM_fresherSize iM_scale iM_night rM_heardRow rM_cutRow iM_breaths iM_cutMany iM_allBreaths rM_trial rM_words iM_fewestBreaths iM_orderMany iM_orderSum iM_leastOrder rM_often iM_setMany iM_someOf iM_allOf iM_allWeight iM_enoughWeight iM_worthSum iM_firstRest iM_leastDrawn p0 b_iM_taped b_iM_size b_iM_end b_iM_failed b_iM_hasCourt b_iM_undos b_iM_images b_iM_scale b_iM_breaths b_iM_cutMany (by assumption) (by assumption)) (cwV 1 hts (wd_V wd_1139 wd_1140 wd_1141 wd_5 (wd_c wd_1142)) rfl rfl rfl dv_yX7_isWordNode_1 ⟨Nat.le_of_ble_eq_true rfl, Nat.le_of_ble_eq_true rfl⟩) ⟨Pw.fb, recvX7 hK hP (q0 := 0) rfl, fun U hU hW => Pw.to (hP.ms _ hMs) (hD.ms _ hMs) (hK.ms [true, false, false, false] rfl) hE hS hFc hU hW⟩ rfl rfl hl.1 rfl (lv_room (Nat.le_of_ble_eq_true rfl)) dX7_turn_6 ⟨Nat.le_of_ble_eq_true rfl, Nat.le_of_ble_eq_true rfl⟩) hS (fun q _ h => hFc q h) hFc (fun r u t H locs ht hvm hw hB hz1 hk1 hS => ?_)
  have hru9 := hw.2
  have hw := hw.1
  obtain ⟨hP, hD⟩ := Bw.goN (ws' := [(oc7 oM x_2278 rM_tape iM_taped iM_size iM_at iM_end iM_token iM_whole iM_nameSize iM_fault iM_place x_2279 rM_letters iM_failed iM_hasCourt rM_r rM_fresh rM_told rM_read rM_st rM_undone rM_kept iM_undos iM_images rM_fresher iM_fresherSize iM_scale iM_night rM_heardRow rM_cutRow iM_breaths iM_cutMany iM_allBreaths rM_trial rM_words iM_fewestBreaths iM_orderMany iM_orderSum iM_leastOrder rM_often iM_setMany iM_someOf iM_allOf iM_allWeight iM_enoughWeight iM_worthSum iM_firstRest iM_leastDrawn), (arI rM_r kM_r 287 fM_r), (arI rM_told kM_told 90 fM_told), (arI rM_st kM_st 90 fM_st), (arI rM_trial kM_trial 90 fM_trial)]) hB rfl ht hP hD _ hMs hk1 hFc rfl
  clear hz1 hk1 hvm ht hB hMs
  rcases hw.2 with ⟨rfl, hc_2280⟩ | ⟨rfl, hc_2280⟩
  · skip
    have hG := hG.trans (lt_eq hru9.symm)
    have hG := hG.trans (if_pos rfl)
    refine lv_if_eq (tgt := 20) hx hb dX7_turn_9 (by decide) (fun c => absurd c (by decide)) (fun _ => ?_)
    refine lv_aload_n hx hb dX7_turn_12 rfl (lv_at hl 0 rfl) ?_
    refine lv_iload_n hx hb dX7_turn_13 rfl (lv_at hl 1 rfl) ?_
    have hFc := va_freeI hD hS hA
    refine va_calli (va_runV (As := [.int p0]) (rest := []) ⟨hx, hb, hml, hown, hts⟩ (tX7_turnOf l dC dI _ oM x_2278 rM_tape iM_taped iM_size iM_at iM_end iM_token iM_whole iM_nameSize iM_fault iM_place x_2279 rM_letters iM_failed iM_hasCourt rM_r fM_r kM_r rM_fresh rM_told fM_told kM_told rM_read rM_st fM_st kM_st rM_undone rM_kept iM_undos iM_images rM_fresher iM_fresherSize iM_scale iM_night rM_heardRow rM_cutRow iM_breaths iM_cutMany iM_allBreaths rM_trial fM_trial kM_trial rM_words iM_fewestBreaths iM_orderMany iM_orderSum iM_leastOrder rM_often iM_setMany iM_someOf iM_allOf iM_allWeight iM_enoughWeight iM_worthSum iM_firstRest iM_leastDrawn p0 b_iM_taped b_iM_size b_iM_end b_iM_failed b_iM_hasCourt b_iM_undos b_iM_images b_iM_scale b_iM_breaths b_iM_cutMany (by assumption) (by assumption) (by assumption) (by assumption) (by assumption) ⟨hc_2280.1, hc_2280.2.1⟩ ⟨hc_2280.2.2.2.1, hc_2280.2.2.2.2⟩) (cwV 1 hts (wd_V wd_1143 wd_1144 wd_1145 wd_5 (wd_c wd_1146)) rfl rfl rfl dv_yX7_turnOf_1 ⟨Nat.le_of_ble_eq_true rfl, Nat.le_of_ble_eq_true rfl⟩) ⟨Pw.fb, recvX7 hK hP (q0 := 0) rfl, fun U hU hW => Pw.to hP hD hK hE hS hFc hU hW⟩ rfl rfl hl.1 rfl (lv_room (Nat.le_of_ble_eq_true rfl)) dX7_turn_14 ⟨Nat.le_of_ble_eq_true rfl, Nat.le_of_ble_eq_true rfl⟩) hS (fun q _ h => hFc q h) hFc (fun r u t H locs ht hvm hw hB hz1 hk1 hS => ?_)
    have hru9 := hw.2
    have hw := hw.1
    refine ex_1_1 hB (fun f_2283 e_f_2283_0 hB => ?_)
    obtain ⟨hP, hD⟩ := Bw.goA (ws' := [(oc7 oM x_2278 rM_tape iM_taped iM_size iM_at iM_end iM_token iM_whole iM_nameSize iM_fault iM_place x_2279 rM_letters iM_failed iM_hasCourt rM_r rM_fresh rM_told rM_read rM_st rM_undone rM_kept iM_undos iM_images rM_fresher iM_fresherSize iM_scale iM_night rM_heardRow rM_cutRow iM_breaths iM_cutMany iM_allBreaths rM_trial rM_words iM_fewestBreaths iM_orderMany iM_orderSum iM_leastOrder rM_often iM_setMany iM_someOf iM_allOf iM_allWeight iM_enoughWeight iM_worthSum iM_firstRest iM_leastDrawn), (arI rM_r kM_r 287 fM_r), (arI rM_told kM_told 90 fM_told), (arI rM_st kM_st 90 fM_st), (arI rM_trial kM_trial 90 f_2283)]) hB rfl ht hFc rfl
    clear hz1 hk1 hvm ht hB
    rw [← hru9] at e_f_2283_0
    obtain ⟨x_2284, rfl⟩ : ∃ z, z = r := ⟨_, rfl⟩
    have hG := hG.trans (un2_eq e_f_2283_0)
    refine lv_goto (tgt := 25) hx hb dX7_turn_17 (by decide) ?_
    exact wq_i hx hb hr (cI x_2284) ⟨⟨trivial, trivial⟩, (cI_of x_2284)⟩ (fun t ht hW => ⟨x_2278, x_2279, f_2283, (cI_tup hG), Bw.to hP hD hK ht hW⟩) hS dX7_turn_25 hlocks
  · skip
    have hG := hG.trans (lt_eq hru9.symm)
    have hG := hG.trans (if_neg (by decide))
    refine lv_if_eq (tgt := 20) hx hb dX7_turn_9 (by decide) (fun _ => ?_) (fun c => absurd c (by decide))
    refine lv_aload_n hx hb dX7_turn_20 rfl (lv_at hl 0 rfl) ?_
    refine lv_iconst (v := 1) hx hb dX7_turn_21 (by decide) ?_
    have hMs := ml_of hD [true, false, false, false, false] (wc := [(oc7 oM x_2278 rM_tape iM_taped iM_size iM_at iM_end iM_token iM_whole iM_nameSize iM_fault iM_place x_2279 rM_letters iM_failed iM_hasCourt rM_r rM_fresh rM_told rM_read rM_st rM_undone rM_kept iM_undos iM_images rM_fresher iM_fresherSize iM_scale iM_night rM_heardRow rM_cutRow iM_breaths iM_cutMany iM_allBreaths rM_trial rM_words iM_fewestBreaths iM_orderMany iM_orderSum iM_leastOrder rM_often iM_setMany iM_someOf iM_allOf iM_allWeight iM_enoughWeight iM_worthSum iM_firstRest iM_leastDrawn)]) rfl
    have hFc := va_freeM hD hS hA _ hMs
    refine va_calli (va_runV (As := [.int 1]) (rest := []) ⟨hx, hb, hml, hown, hts⟩ (tX7_no l dC dI _ oM x_2278 rM_tape iM_taped iM_size iM_at iM_end iM_token iM_whole iM_nameSize iM_fault iM_place x_2279 rM_letters iM_failed iM_hasCourt rM_r rM_fresh rM_told rM_read rM_st rM_undone rM_kept iM_undos iM_images rM_fresher iM_fresherSize iM_scale iM_night rM_heardRow rM_cutRow iM_breaths iM_cutMany iM_allBreaths rM_trial rM_words iM_fewestBreaths iM_orderMany iM_orderSum iM_leastOrder rM_often iM_setMany iM_someOf iM_allOf iM_allWeight iM_enoughWeight iM_worthSum iM_firstRest iM_leastDrawn 1 b_iM_taped b_iM_size b_iM_end b_iM_failed b_iM_hasCourt b_iM_undos b_iM_images b_iM_scale b_iM_breaths b_iM_cutMany) (cwV 1 hts (wd_V wd_396 wd_397 wd_398 wd_5 (wd_c wd_399)) rfl rfl rfl dv_yX7_no_1 ⟨Nat.le_of_ble_eq_true rfl, Nat.le_of_ble_eq_true rfl⟩) ⟨Pw.fb, recvX7 hK hP (q0 := 0) rfl, fun U hU hW => Pw.to (hP.ms _ hMs) (hD.ms _ hMs) (hK.ms [false, false, false, false] rfl) hE hS hFc hU hW⟩ rfl rfl hl.1 rfl (lv_room (Nat.le_of_ble_eq_true rfl)) dX7_turn_22 ⟨Nat.le_of_ble_eq_true rfl, Nat.le_of_ble_eq_true rfl⟩) hS (fun q _ h => hFc q h) hFc (fun r u t H locs ht hvm hw hB hz1 hk1 hS => ?_)
    have hru9 := hw.2
    have hw := hw.1
    refine ex_1_1 hB (fun x_2286 e_x_2286_0 hB => ?_)
    obtain ⟨hP, hD⟩ := Bw.goN (ws' := [(oc7 oM x_2278 rM_tape iM_taped iM_size iM_at iM_end iM_token iM_whole iM_nameSize iM_fault iM_place x_2286 rM_letters iM_failed iM_hasCourt rM_r rM_fresh rM_told rM_read rM_st rM_undone rM_kept iM_undos iM_images rM_fresher iM_fresherSize iM_scale iM_night rM_heardRow rM_cutRow iM_breaths iM_cutMany iM_allBreaths rM_trial rM_words iM_fewestBreaths iM_orderMany iM_orderSum iM_leastOrder rM_often iM_setMany iM_someOf iM_allOf iM_allWeight iM_enoughWeight iM_worthSum iM_firstRest iM_leastDrawn), (arI rM_r kM_r 287 fM_r), (arI rM_told kM_told 90 fM_told), (arI rM_st kM_st 90 fM_st), (arI rM_trial kM_trial 90 fM_trial)]) hB rfl ht hP hD _ hMs hk1 hFc rfl
    clear hz1 hk1 hvm ht hB hMs
    rw [← hru9] at e_x_2286_0
    obtain ⟨x_2287, rfl⟩ : ∃ z, z = r := ⟨_, rfl⟩
    have hG := hG.trans (un2_eq e_x_2286_0)
    exact wq_i hx hb hr (cI x_2287) ⟨⟨trivial, trivial⟩, (cI_of x_2287)⟩ (fun t ht hW => ⟨x_2278, x_2286, fM_trial, (cI_tup hG), Bw.to hP hD hK ht hW⟩) hS dX7_turn_25 hlocks
set_option maxHeartbeats 4000000 in
set_option maxRecDepth 100000 in
theorem tX7_pivot (l : Launch) (dC : Nat → ClassId) (dI : Nat → Nat → Nat) (sz : Nat) (oM : Nat) (iM_thrown : Int32) (rM_tape : Nat) (iM_taped : Int32) (iM_size : Int32) (iM_at : Int32) (iM_end : Int32) (iM_token : Int32) (iM_whole : Int32) (iM_nameSize : Int32) (iM_fault : Int32) (iM_place : Int32) (iM_trouble : Int32) (rM_letters : Nat) (iM_failed : Int32) (iM_hasCourt : Int32) (rM_r : Nat) (fM_r : Nat → Int32) (kM_r : ClassId) (rM_fresh : Nat) (rM_told : Nat) (fM_told : Nat → Int32) (kM_told : ClassId) (rM_read : Nat) (rM_st : Nat) (fM_st : Nat → Int32) (kM_st : ClassId) (rM_undone : Nat) (rM_kept : Nat) (iM_undos : Int32) (iM_images : Int32) (rM_fresher : Nat) (iM_fresherSize : Int32) (iM_scale : Int32) (iM_night : Int32) (rM_heardRow : Nat) (rM_cutRow : Nat) (iM_breaths : Int32) (iM_cutMany : Int32) (iM_allBreaths : Int32) (rM_trial : Nat) (fM_trial : Nat → Int32) (kM_trial : ClassId) (rM_words : Nat) (iM_fewestBreaths : Int32) (iM_orderMany : Int32) (iM_orderSum : Int32) (iM_leastOrder : Int32) (rM_often : Nat) (iM_setMany : Int32) (iM_someOf : Int32) (iM_allOf : Int32) (iM_allWeight : Int64) (iM_enoughWeight : Int64) (iM_worthSum : Int64) (iM_firstRest : Int32) (iM_leastDrawn : Int32) (b_iM_taped : 0 ≤ iM_taped.toInt ∧ iM_taped.toInt ≤ 900) (b_iM_size : 0 ≤ iM_size.toInt ∧ iM_size.toInt ≤ 900) (b_iM_end : 0 ≤ iM_end.toInt ∧ iM_end.toInt ≤ 900) (b_iM_failed : 0 ≤ iM_failed.toInt ∧ iM_failed.toInt ≤ 1) (b_iM_hasCourt : 0 ≤ iM_hasCourt.toInt ∧ iM_hasCourt.toInt ≤ 1) (b_iM_undos : 0 ≤ iM_undos.toInt ∧ iM_undos.toInt ≤ 16) (b_iM_images : 0 ≤ iM_images.toInt ∧ iM_images.toInt ≤ 3) (b_iM_scale : 1 ≤ iM_scale.toInt ∧ iM_scale.toInt ≤ 1296) (b_iM_breaths : 0 ≤ iM_breaths.toInt ∧ iM_breaths.toInt ≤ 399) (b_iM_cutMany : 0 ≤ iM_cutMany.toInt ∧ iM_cutMany.toInt ≤ 399) (r_R : ROk fM_r) (r_C : iM_hasCourt.toInt ≤ 0 ∨ (1 ≤ (fM_r 1).toInt ∧ 0 ≤ (fM_r 6).toInt ∧ (fM_r 6).toInt < (fM_r 1).toInt)) (r_st : RowOk fM_r fM_st) (r_told : RowOk fM_r fM_told) (r_wst : WorOk fM_st)  : Met l yX7_pivot (Cond.code yX7_pivot cX7_pivot 5 (some .int) :: wG) ({ frames := 23, cells := 0, slots := 0, locals := 609 }) (va_Pc [.ref oM] (Pw dC dI sz [(oc7 oM iM_thrown rM_tape iM_taped iM_size iM_at iM_end iM_token iM_whole iM_nameSize iM_fault iM_place iM_trouble rM_letters iM_failed iM_hasCourt rM_r rM_fresh rM_told rM_read rM_st rM_undone rM_kept iM_undos iM_images rM_fresher iM_fresherSize iM_scale iM_night rM_heardRow rM_cutRow iM_breaths iM_cutMany iM_allBreaths rM_trial rM_words iM_fewestBreaths iM_orderMany iM_orderSum iM_leastOrder rM_often iM_setMany iM_someOf iM_allOf iM_allWeight iM_enoughWeight iM_worthSum iM_firstRest iM_leastDrawn), (arI rM_r kM_r 287 fM_r), (arI rM_told kM_told 90 fM_told), (arI rM_st kM_st 90 fM_st), (arI rM_trial kM_trial 90 fM_trial)] [(kM_r, .int), (kM_told, .int), (kM_st, .int), (kM_trial, .int)])) (va_Qi (fun (r : Int32) (u : Nat) => (True ∧ True) ∧ r = Int32.ofNat u) (fun (u : Nat) (t : State) => ∃ (niM_thrown : Int32) (niM_trouble : Int32) (nfM_trial : Nat → Int32), (PX7_pivot iM_hasCourt fM_r fM_told fM_st iM_scale iM_night fM_trial = (Int32.ofNat u, niM_thrown, niM_trouble, nfM_trial)) ∧ Bw dC dI (va_A [(oc7 oM iM_thrown rM_tape iM_taped iM_size iM_at iM_end iM_token iM_whole iM_nameSize iM_fault iM_place iM_trouble rM_letters iM_failed iM_hasCourt rM_r rM_fresh rM_told rM_read rM_st rM_undone rM_kept iM_undos iM_images rM_fresher iM_fresherSize iM_scale iM_night rM_heardRow rM_cutRow iM_breaths iM_cutMany iM_allBreaths rM_trial rM_words iM_fewestBreaths iM_orderMany iM_orderSum iM_leastOrder rM_often iM_setMany iM_someOf iM_allOf iM_allWeight iM_enoughWeight iM_worthSum iM_firstRest iM_leastDrawn), (arI rM_r kM_r 287 fM_r), (arI rM_told kM_told 90 fM_told), (arI rM_st kM_st 90 fM_st), (arI rM_trial kM_trial 90 fM_trial)] sz) [(oc7 oM niM_thrown rM_tape iM_taped iM_size iM_at iM_end iM_token iM_whole iM_nameSize iM_fault iM_place niM_trouble rM_letters iM_failed iM_hasCourt rM_r rM_fresh rM_told rM_read rM_st rM_undone rM_kept iM_undos iM_images rM_fresher iM_fresherSize iM_scale iM_night rM_heardRow rM_cutRow iM_breaths iM_cutMany iM_allBreaths rM_trial rM_words iM_fewestBreaths iM_orderMany iM_orderSum iM_leastOrder rM_often iM_setMany iM_someOf iM_allOf iM_allWeight iM_enoughWeight iM_worthSum iM_firstRest iM_leastDrawn), (arI rM_r kM_r 287 fM_r), (arI rM_told kM_told 90 fM_told), (arI rM_st kM_st 90 fM_st), (arI rM_trial kM_trial 90 nfM_trial)] [(kM_r, .int), (kM_told, .int), (kM_st, .int), (kM_trial, .int)] t) (va_A [(oc7 oM iM_thrown rM_tape iM_taped iM_size iM_at iM_end iM_token iM_whole iM_nameSize iM_fault iM_place iM_trouble rM_letters iM_failed iM_hasCourt rM_r rM_fresh rM_told rM_read rM_st rM_undone rM_kept iM_undos iM_images rM_fresher iM_fresherSize iM_scale iM_night rM_heardRow rM_cutRow iM_breaths iM_cutMany iM_allBreaths rM_trial rM_words iM_fewestBreaths iM_orderMany iM_orderSum iM_leastOrder rM_often iM_setMany iM_someOf iM_allOf iM_allWeight iM_enoughWeight iM_worthSum iM_firstRest iM_leastDrawn), (arI rM_r kM_r 287 fM_r), (arI rM_told kM_told 90 fM_told), (arI rM_st kM_st 90 fM_st), (arI rM_trial kM_trial 90 fM_trial)] sz)) 0 0 (va_A [(oc7 oM iM_thrown rM_tape iM_taped iM_size iM_at iM_end iM_token iM_whole iM_nameSize iM_fault iM_place iM_trouble rM_letters iM_failed iM_hasCourt rM_r rM_fresh rM_told rM_read rM_st rM_undone rM_kept iM_undos iM_images rM_fresher iM_fresherSize iM_scale iM_night rM_heardRow rM_cutRow iM_breaths iM_cutMany iM_allBreaths rM_trial rM_words iM_fewestBreaths iM_orderMany iM_orderSum iM_leastOrder rM_often iM_setMany iM_someOf iM_allOf iM_allWeight iM_enoughWeight iM_worthSum iM_firstRest iM_leastDrawn), (arI rM_r kM_r 287 fM_r), (arI rM_told kM_told 90 fM_told), (arI rM_st kM_st 90 fM_st), (arI rM_trial kM_trial 90 fM_trial)] sz) := by
  refine Met.ofW (cc := cX7_pivot) (maxL := 5) (ret := (some .int)) pnX7 rfl ?_
  intro p e s m args below meth c s₁ B hml hv
  obtain ⟨rfl, hsz, hP, hK, hD0, hE⟩ := hv
  have hx := B.exec
  have hb := B.bytes
  have hr := B.returns
  have hts : ∀ w ∈ wG, w.before ([.ref oM] : List Value).toArray s = true := fun w h => atoms_spec (ws := Cond.code yX7_pivot cX7_pivot 5 (some .int) :: wG) B.pre w (List.mem_cons_of_mem _ h)
  have hown : s.vm.findClass RX7 = some m.cls := own_of B.named rfl
  have hlocks := B.notSynchronized
  subst hsz
  have hD := hD0.self (sz := s.heap.size)
  generalize hAe : va_A [(oc7 oM iM_thrown rM_tape iM_taped iM_size iM_at iM_end iM_token iM_whole iM_nameSize iM_fault iM_place iM_trouble rM_letters iM_failed iM_hasCourt rM_r rM_fresh rM_told rM_read rM_st rM_undone rM_kept iM_undos iM_images rM_fresher iM_fresherSize iM_scale iM_night rM_heardRow rM_cutRow iM_breaths iM_cutMany iM_allBreaths rM_trial rM_words iM_fewestBreaths iM_orderMany iM_orderSum iM_leastOrder rM_often iM_setMany iM_someOf iM_allOf iM_allWeight iM_enoughWeight iM_worthSum iM_firstRest iM_leastDrawn), (arI rM_r kM_r 287 fM_r), (arI rM_told kM_told 90 fM_told), (arI rM_st kM_st 90 fM_st), (arI rM_trial kM_trial 90 fM_trial)] s.heap.size = A at hD hE ⊢
  have hA : ∀ q : Nat, s.heap.size ≤ q → A q := fun q h => by rw [← hAe]; exact Or.inr h
  have hS : va_S A s.heap s.heap [] := va_S.rf
  have hl := lv_entry ([.ref oM]) (n := 5) (Nat.le_of_ble_eq_true rfl)
  rw [lg_entry_eq]
  generalize (lg_sl ([.ref oM]) ++ List.replicate (5 - (lg_sl ([.ref oM])).length) Slot.unset).toArray = ls at hl ⊢
  have hl : lv_has ls 5 [(0, .ref oM)] := hl
  have hG := PX7_pivot_eq iM_hasCourt fM_r fM_told fM_st iM_scale iM_night fM_trial
  have s_slips := r_R.slips
  have s_nodes := r_R.nodes
  have s_uns := r_R.uns
  refine lv_aload_n hx hb dX7_pivot_0 rfl (lv_at hl 0 rfl) ?_
  have hMs := ml_of hD [true, false, false, false, false] (wc := [(oc7 oM iM_thrown rM_tape iM_taped iM_size iM_at iM_end iM_token iM_whole iM_nameSize iM_fault iM_place iM_trouble rM_letters iM_failed iM_hasCourt rM_r rM_fresh rM_told rM_read rM_st rM_undone rM_kept iM_undos iM_images rM_fresher iM_fresherSize iM_scale iM_night rM_heardRow rM_cutRow iM_breaths iM_cutMany iM_allBreaths rM_trial rM_words iM_fewestBreaths iM_orderMany iM_orderSum iM_leastOrder rM_often iM_setMany iM_someOf iM_allOf iM_allWeight iM_enoughWeight iM_worthSum iM_firstRest iM_leastDrawn)]) rfl
  have hFc := va_freeM hD hS hA _ hMs
  refine va_callv (va_runV (As := []) (rest := []) ⟨hx, hb, hml, hown, hts⟩ (tX7_good l dC dI _ oM iM_thrown rM_tape iM_taped iM_size iM_at iM_end iM_token iM_whole iM_nameSize iM_fault iM_place iM_trouble rM_letters iM_failed iM_hasCourt rM_r rM_fresh rM_told rM_read rM_st rM_undone rM_kept iM_undos iM_images rM_fresher iM_fresherSize iM_scale iM_night rM_heardRow rM_cutRow iM_breaths iM_cutMany iM_allBreaths rM_trial rM_words iM_fewestBreaths iM_orderMany iM_orderSum iM_leastOrder rM_often iM_setMany iM_someOf iM_allOf iM_allWeight iM_enoughWeight iM_worthSum iM_firstRest iM_leastDrawn b_iM_taped b_iM_size b_iM_end b_iM_failed b_iM_hasCourt b_iM_undos b_iM_images b_iM_scale b_iM_breaths b_iM_cutMany) (cwV 0 hts (wd_V wd_388 wd_389 wd_390 wd_5 (wd_c wd_391)) rfl rfl rfl dv_yX7_good_0 ⟨Nat.le_of_ble_eq_true rfl, Nat.le_of_ble_eq_true rfl⟩) ⟨Pw.fb, recvX7 hK hP (q0 := 0) rfl, fun U hU hW => Pw.to (hP.ms _ hMs) (hD.ms _ hMs) (hK.ms [false, false, false, false] rfl) hE hS hFc hU hW⟩ rfl rfl hl.1 rfl (lv_room (Nat.le_of_ble_eq_true rfl)) dX7_pivot_1 ⟨Nat.le_of_ble_eq_true rfl, Nat.le_of_ble_eq_true rfl⟩) hS (fun q _ h => hFc q h) hFc (fun u t H locs ht hvm hw hB hz1 hk1 hS => ?_)
  refine ex_2_3 hB (fun x_2356 x_2357 b_x_2356 b_x_2357 e_x_2356_0 hB => ?_)
  obtain ⟨hP, hD⟩ := Bw.goN (ws' := [(oc7 oM x_2356 rM_tape iM_taped iM_size iM_at iM_end iM_token iM_whole iM_nameSize iM_fault iM_place x_2357 rM_letters iM_failed iM_hasCourt rM_r rM_fresh rM_told rM_read rM_st rM_undone rM_kept iM_undos iM_images rM_fresher iM_fresherSize iM_scale iM_night rM_heardRow rM_cutRow iM_breaths iM_cutMany iM_allBreaths rM_trial rM_words iM_fewestBreaths iM_orderMany iM_orderSum iM_leastOrder rM_often iM_setMany iM_someOf iM_allOf iM_allWeight iM_enoughWeight iM_worthSum iM_firstRest iM_leastDrawn), (arI rM_r kM_r 287 fM_r), (arI rM_told kM_told 90 fM_told), (arI rM_st kM_st 90 fM_st), (arI rM_trial kM_trial 90 fM_trial)]) hB rfl ht hP hD _ hMs hk1 hFc rfl
  clear hz1 hk1 hvm ht hB hMs
  have rg_x_2356 := fb_rng x_2356
  have rg_x_2357 := fb_rng x_2357
  have hG := hG.trans (un2_eq e_x_2356_0)
  refine lv_aload_n hx hb dX7_pivot_4 rfl (lv_at hl 0 rfl) ?_
  rcases (id r_C) with r_C0 | r_C1
  · skip
    refine va_get (D := (dC, dI)) (ci := 7) (v := .int iM_hasCourt) (C := RX7) (T := TX7) (N := 48) hx hb hts inX7 hown hK hP 0 rfl rfl 14 (by decide) (hts _ wd_385) (fun _ h9 => h9) rfl dX7_pivot_5 ?_
    have rg_iM_hasCourt := fb_rng iM_hasCourt
    refine lv_if_ne (tgt := 17) hx hb dX7_pivot_8 (by decide) (fun c_2358 => ?_) (fun c_2358 => ?_)
    · skip
      have hG := hG.trans (if_neg c_2358)
      have gc_2358 := ti_ne c_2358 rfl kc_0
      exact (om_c9ba8b89 gc_2358 r_C0 b_iM_hasCourt.1).elim
    · skip
      have hG := hG.trans (if_pos c_2358)
      have gc_2358 := ti_eq c_2358 rfl kc_0
      refine lv_aload_n hx hb dX7_pivot_11 rfl (lv_at hl 0 rfl) ?_
      refine lv_iconst (v := 1) hx hb dX7_pivot_12 (by decide) ?_
      have hMs := ml_of hD [true, false, false, false, false] (wc := [(oc7 oM x_2356 rM_tape iM_taped iM_size iM_at iM_end iM_token iM_whole iM_nameSize iM_fault iM_place x_2357 rM_letters iM_failed iM_hasCourt rM_r rM_fresh rM_told rM_read rM_st rM_undone rM_kept iM_undos iM_images rM_fresher iM_fresherSize iM_scale iM_night rM_heardRow rM_cutRow iM_breaths iM_cutMany iM_allBreaths rM_trial rM_words iM_fewestBreaths iM_orderMany iM_orderSum iM_leastOrder rM_often iM_setMany iM_someOf iM_allOf iM_allWeight iM_enoughWeight iM_worthSum iM_firstRest iM_leastDrawn)]) rfl
      have hFc := va_freeM hD hS hA _ hMs
      refine va_calli (va_runV (As := [.int 1]) (rest := []) ⟨hx, hb, hml, hown, hts⟩ (tX7_no l dC dI _ oM x_2356 rM_tape iM_taped iM_size iM_at iM_end iM_token iM_whole iM_nameSize iM_fault iM_place x_2357 rM_letters iM_failed iM_hasCourt rM_r rM_fresh rM_told rM_read rM_st rM_undone rM_kept iM_undos iM_images rM_fresher iM_fresherSize iM_scale iM_night rM_heardRow rM_cutRow iM_breaths iM_cutMany iM_allBreaths rM_trial rM_words iM_fewestBreaths iM_orderMany iM_orderSum iM_leastOrder rM_often iM_setMany iM_someOf iM_allOf iM_allWeight iM_enoughWeight iM_worthSum iM_firstRest iM_leastDrawn 1 b_iM_taped b_iM_size b_iM_end b_iM_failed b_iM_hasCourt b_iM_undos b_iM_images b_iM_scale b_iM_breaths b_iM_cutMany) (cwV 1 hts (wd_V wd_396 wd_397 wd_398 wd_5 (wd_c wd_399)) rfl rfl rfl dv_yX7_no_1 ⟨Nat.le_of_ble_eq_true rfl, Nat.le_of_ble_eq_true rfl⟩) ⟨Pw.fb, recvX7 hK hP (q0 := 0) rfl, fun U hU hW => Pw.to (hP.ms _ hMs) (hD.ms _ hMs) (hK.ms [false, false, false, false] rfl) hE hS hFc hU hW⟩ rfl rfl hl.1 rfl (lv_room (Nat.le_of_ble_eq_true rfl)) dX7_pivot_13 ⟨Nat.le_of_ble_eq_true rfl, Nat.le_of_ble_eq_true rfl⟩) hS (fun q _ h => hFc q h) hFc (fun r u t H locs ht hvm hw hB hz1 hk1 hS => ?_)
      have hru9 := hw.2
      have hw := hw.1
      refine ex_1_1 hB (fun x_2359 e_x_2359_0 hB => ?_)
      obtain ⟨hP, hD⟩ := Bw.goN (ws' := [(oc7 oM x_2356 rM_tape iM_taped iM_size iM_at iM_end iM_token iM_whole iM_nameSize iM_fault iM_place x_2359 rM_letters iM_failed iM_hasCourt rM_r rM_fresh rM_told rM_read rM_st rM_undone rM_kept iM_undos iM_images rM_fresher iM_fresherSize iM_scale iM_night rM_heardRow rM_cutRow iM_breaths iM_cutMany iM_allBreaths rM_trial rM_words iM_fewestBreaths iM_orderMany iM_orderSum iM_leastOrder rM_often iM_setMany iM_someOf iM_allOf iM_allWeight iM_enoughWeight iM_worthSum iM_firstRest iM_leastDrawn), (arI rM_r kM_r 287 fM_r), (arI rM_told kM_told 90 fM_told), (arI rM_st kM_st 90 fM_st), (arI rM_trial kM_trial 90 fM_trial)]) hB rfl ht hP hD _ hMs hk1 hFc rfl
      clear hz1 hk1 hvm ht hB hMs
      have rg_x_2359 := fb_rng x_2359
      rw [← hru9] at e_x_2359_0
      obtain ⟨x_2360, rfl⟩ : ∃ z, z = r := ⟨_, rfl⟩
      have hG := hG.trans (un2_eq e_x_2359_0)
      have rg_x_2360 := fb_rng x_2360
      exact wq_i hx hb hr (cI x_2360) ⟨⟨trivial, trivial⟩, (cI_of x_2360)⟩ (fun t ht hW => ⟨x_2356, x_2359, fM_trial, (cI_tup hG), Bw.to hP hD hK ht hW⟩) hS dX7_pivot_16 hlocks
  · skip
    refine va_get (D := (dC, dI)) (ci := 7) (v := .int iM_hasCourt) (C := RX7) (T := TX7) (N := 48) hx hb hts inX7 hown hK hP 0 rfl rfl 14 (by decide) (hts _ wd_385) (fun _ h9 => h9) rfl dX7_pivot_5 ?_
    have rg_iM_hasCourt := fb_rng iM_hasCourt
    refine lv_if_ne (tgt := 17) hx hb dX7_pivot_8 (by decide) (fun c_2361 => ?_) (fun c_2361 => ?_)
    · skip
      have hG := hG.trans (if_neg c_2361)
      have gc_2361 := ti_ne c_2361 rfl kc_0
      refine lv_bipush (v := (-2)) hx hb dX7_pivot_17 (by decide) ?_
      refine lv_istore_n (lv' := [(1, .int (-2)), (0, .ref oM)]) hx hb dX7_pivot_19 rfl hl (by decide) rfl (fun ls hl => ?_)
      refine lv_ldc hx hb hown (hts _ wd_653) dX7_pivot_20 ?_
      refine lv_istore_n (lv' := [(2, .int 100000000), (1, .int (-2)), (0, .ref oM)]) hx hb dX7_pivot_22 rfl hl (by decide) rfl (fun ls hl => ?_)
      refine lv_iconst (v := 0) hx hb dX7_pivot_23 (by decide) ?_
      refine lv_istore_n (lv' := [(3, .int 0), (2, .int 100000000), (1, .int (-2)), (0, .ref oM)]) hx hb dX7_pivot_24 rfl hl (by decide) rfl (fun ls hl => ?_)
      have hl := lv_sub hl (l' := [(3, .int 0), (2, .int 100000000), (1, .int (-2)), (0, .ref oM)]) [0, 1, 2, 3] rfl
      have key_n_2366 : ∀ (n_2366 : Nat) (z_2362 : Int32) (z_2363 : Int32) (z_2364 : Int32) (f_2365 : Nat → Int32) (H : Heap) (locs : List Loc) (ls : Array Slot), (0 ≤ z_2362.toInt ∧ z_2362.toInt ≤ 2147483647) → (2147483647 - z_2362.toInt).toNat < n_2366 → (PX7_pivot iM_hasCourt fM_r fM_told fM_st iM_scale iM_night fM_trial = HX7_pivot_0 fM_r fM_told fM_st iM_scale iM_night x_2356 x_2357 n_2366 z_2362 z_2363 z_2364 f_2365) → va_P (dC, dI) vwCl [(oc7 oM x_2356 rM_tape iM_taped iM_size iM_at iM_end iM_token iM_whole iM_nameSize iM_fault iM_place x_2357 rM_letters iM_failed iM_hasCourt rM_r rM_fresh rM_told rM_read rM_st rM_undone rM_kept iM_undos iM_images rM_fresher iM_fresherSize iM_scale iM_night rM_heardRow rM_cutRow iM_breaths iM_cutMany iM_allBreaths rM_trial rM_words iM_fewestBreaths iM_orderMany iM_orderSum iM_leastOrder rM_often iM_setMany iM_someOf iM_allOf iM_allWeight iM_enoughWeight iM_worthSum iM_firstRest iM_leastDrawn), (arI rM_r kM_r 287 fM_r), (arI rM_told kM_told 90 fM_told), (arI rM_st kM_st 90 fM_st), (arI rM_trial kM_trial 90 f_2365)] H → va_D A [(oc7 oM x_2356 rM_tape iM_taped iM_size iM_at iM_end iM_token iM_whole iM_nameSize iM_fault iM_place x_2357 rM_letters iM_failed iM_hasCourt rM_r rM_fresh rM_told rM_read rM_st rM_undone rM_kept iM_undos iM_images rM_fresher iM_fresherSize iM_scale iM_night rM_heardRow rM_cutRow iM_breaths iM_cutMany iM_allBreaths rM_trial rM_words iM_fewestBreaths iM_orderMany iM_orderSum iM_leastOrder rM_often iM_setMany iM_someOf iM_allOf iM_allWeight iM_enoughWeight iM_worthSum iM_firstRest iM_leastDrawn), (arI rM_r kM_r 287 fM_r), (arI rM_told kM_told 90 fM_told), (arI rM_st kM_st 90 fM_st), (arI rM_trial kM_trial 90 f_2365)] → va_S A s.heap H locs → lv_has ls 5 [(3, .int z_2362), (2, .int z_2363), (1, .int z_2364), (0, .ref oM)] → W p l e (headSpec (Cond.code yX7_pivot cX7_pivot 5 (some .int) :: wG) ({ frames := 23, cells := 0, slots := 0, locals := 609 })).room s m ([.ref oM] : List Value).toArray below meth c H locs 0 0 (MQ below (va_Qi (fun (r : Int32) (u : Nat) => (True ∧ True) ∧ r = Int32.ofNat u) (fun (u : Nat) (t : State) => ∃ (niM_thrown : Int32) (niM_trouble : Int32) (nfM_trial : Nat → Int32), (PX7_pivot iM_hasCourt fM_r fM_told fM_st iM_scale iM_night fM_trial = (Int32.ofNat u, niM_thrown, niM_trouble, nfM_trial)) ∧ Bw dC dI A [(oc7 oM niM_thrown rM_tape iM_taped iM_size iM_at iM_end iM_token iM_whole iM_nameSize iM_fault iM_place niM_trouble rM_letters iM_failed iM_hasCourt rM_r rM_fresh rM_told rM_read rM_st rM_undone rM_kept iM_undos iM_images rM_fresher iM_fresherSize iM_scale iM_night rM_heardRow rM_cutRow iM_breaths iM_cutMany iM_allBreaths rM_trial rM_words iM_fewestBreaths iM_orderMany iM_orderSum iM_leastOrder rM_often iM_setMany iM_someOf iM_allOf iM_allWeight iM_enoughWeight iM_worthSum iM_firstRest iM_leastDrawn), (arI rM_r kM_r 287 fM_r), (arI rM_told kM_told 90 fM_told), (arI rM_st kM_st 90 fM_st), (arI rM_trial kM_trial 90 nfM_trial)] [(kM_r, .int), (kM_told, .int), (kM_st, .int), (kM_trial, .int)] t) A) ([.ref oM] : List Value).toArray s 0 0 A) (F0 m 25 ls []) := by
        intro n_2366
        induction n_2366 with
        | zero => intro z_2362 z_2363 z_2364 f_2365 H locs ls hi0_n_2366 hm; exact absurd hm (Nat.not_lt_zero _)
        | succ n_2366 ih_n_2366 =>
          intro z_2362 z_2363 z_2364 f_2365 H locs ls hi0_n_2366 hm_n_2366 hG hP hD hS hl
          have hG := hG.trans (HX7_pivot_0_eq _ _ _ _ _ _ _ _ _ _ _ _)
          have rg_z_2362 := fb_rng z_2362
          have rg_z_2363 := fb_rng z_2363
          have rg_z_2364 := fb_rng z_2364
          refine lv_iload_n hx hb dX7_pivot_25 rfl (lv_at hl 0 rfl) ?_
          refine lv_aload_n hx hb dX7_pivot_26 rfl (lv_at hl 3 rfl) ?_
          refine va_get (D := (dC, dI)) (ci := 7) (v := .ref rM_r) (C := RX7) (T := TX7) (N := 48) hx hb hts inX7 hown hK hP 0 rfl rfl 15 (by decide) (hts _ wd_155) (fun _ h9 => h9) rfl dX7_pivot_27 ?_
          refine lv_iconst (v := 1) hx hb dX7_pivot_30 (by decide) ?_
          refine va_iald hx hb hK hP 1 0 rfl rfl (by unfold vp_in; decide) dX7_pivot_31 ?_
          refine lv_topi (fun x_2367 ex_2367 => ?_)
          have hG := hG.trans (lt_eq ex_2367)
          have rg_x_2367 := fb_rng x_2367
          have cx_2367 : (fM_r 1).toInt = x_2367.toInt := congrArg Int32.toInt (show fM_r 1 = x_2367 from ex_2367.symm)
          have sx_2367 := r_R.nodes
          refine lv_icmp_ge (tgt := 84) hx hb dX7_pivot_32 (by decide) (fun c_2368 => ?_) (fun c_2368 => ?_)
          · skip
            have hG := hG.trans (if_pos c_2368)
            have gc_2368 := ti_le c_2368 rfl rfl
            refine lv_iload_n hx hb dX7_pivot_84 rfl (lv_at hl 2 rfl) ?_
            exact wq_i hx hb hr (cI z_2364) ⟨⟨trivial, trivial⟩, (cI_of z_2364)⟩ (fun t ht hW => ⟨x_2356, x_2357, f_2365, (cI_tup hG), Bw.to hP hD hK ht hW⟩) hS dX7_pivot_85 hlocks
          · skip
            have hG := hG.trans (if_neg c_2368)
            have gc_2368 := ti_nle c_2368 rfl rfl
            refine lv_aload_n hx hb dX7_pivot_35 rfl (lv_at hl 3 rfl) ?_
            refine va_get (D := (dC, dI)) (ci := 7) (v := .ref rM_r) (C := RX7) (T := TX7) (N := 48) hx hb hts inX7 hown hK hP 0 rfl rfl 15 (by decide) (hts _ wd_155) (fun _ h9 => h9) rfl dX7_pivot_36 ?_
            refine lv_bipush (v := 9) hx hb dX7_pivot_39 (by decide) ?_
            refine lv_iload_n hx hb dX7_pivot_41 rfl (lv_at hl 0 rfl) ?_
            refine lv_iadd hx hb dX7_pivot_42 ?_
            refine lv_topi (fun x_2369 ex_2369 => ?_)
            have hG := hG.trans (lt_eq ex_2369)
            have vx_2369 : x_2369.toInt = z_2362.toInt + 9 := om_296ce4dd (ti_add ex_2369 kc_9 rfl (om_090bbef4 hi0_n_2366.1) (om_a45db860 s_nodes.2 cx_2367 gc_2368))
            refine va_iald hx hb hK hP 1 0 rfl rfl (ti_in vx_2369 (om_edbe2e4c hi0_n_2366.1) (om_9da1971f s_nodes.2 cx_2367 gc_2368)) dX7_pivot_43 ?_
            refine lv_topi (fun x_2370 ex_2370 => ?_)
            have hG := hG.trans (lt_eq ex_2370)
            have rg_x_2370 := fb_rng x_2370
            have kx_2370 : (fM_r x_2369.toNatClampNeg).toInt = x_2370.toInt := by rw [ex_2370]
            have cx_2370 : (fM_r (9 + z_2362.toNatClampNeg)).toInt = x_2370.toInt := by rw [show 9 + z_2362.toNatClampNeg = x_2369.toNatClampNeg from (om_32f1c3e7 (ti_cl (x := z_2362) rfl hi0_n_2366.1) (ti_cl (x := x_2369) vx_2369 (om_edbe2e4c hi0_n_2366.1)))]; exact kx_2370
            have sx_2370 := r_R.kind x_2369.toNatClampNeg (om_462cc4af (ti_cl (x := x_2369) vx_2369 (om_edbe2e4c hi0_n_2366.1)) hi0_n_2366.1) (om_19da1274 (ti_cl (x := x_2369) vx_2369 (om_edbe2e4c hi0_n_2366.1)) s_nodes.2 cx_2367 gc_2368)
            refine lv_if_ne (tgt := 55) hx hb dX7_pivot_44 (by decide) (fun c_2371 => ?_) (fun c_2371 => ?_)
            · skip
              have hG := hG.trans (if_neg c_2371)
              have gc_2371 := ti_ne c_2371 rfl kc_0
              refine lv_bipush (v := (-2)) hx hb dX7_pivot_55 (by decide) ?_
              refine lv_istore (lv' := [(4, .int (-2)), (3, .int z_2362), (2, .int z_2363), (1, .int z_2364), (0, .ref oM)]) hx hb dX7_pivot_57 hl (by decide) rfl (fun ls hl => ?_)
              refine lv_iload hx hb dX7_pivot_59 (lv_at hl 0 rfl) ?_
              refine lv_if_lt (tgt := 78) hx hb dX7_pivot_61 (by decide) (fun _ => ?_) (fun c => absurd c (by decide))
              obtain ⟨x_2373, ex_2373⟩ : ∃ z : Int32, z = z_2362 + Int32.ofInt 1 := ⟨_, rfl⟩
              have hG := hG.trans (lt_eq ex_2373)
              have vx_2373 : x_2373.toInt = z_2362.toInt + 1 := ti_add (y := 1) ex_2373 rfl kc_1 (om_4e4fce7e hi0_n_2366.1) (om_83bd38f8 s_nodes.2 cx_2367 gc_2368)
              refine lv_iinc (v := x_2373) (lv' := [(3, .int x_2373), (4, .int (-2)), (2, .int z_2363), (1, .int z_2364), (0, .ref oM)]) hx hb dX7_pivot_78 hl (k := 1) rfl ex_2373.symm (by decide) rfl (fun ls hl => ?_)
              refine lv_goto (tgt := 25) hx hb dX7_pivot_81 (by decide) ?_
              exact ih_n_2366 x_2373 z_2363 z_2364 f_2365 _ _ _  ⟨(om_83b90de5 hi0_n_2366.1 vx_2373), (om_3052bbb6 s_nodes.2 cx_2367 gc_2368 vx_2373)⟩ (ms_lt hm_n_2366 (om_b9393183 vx_2373) (om_5f9db36c s_nodes.2 cx_2367 gc_2368)) hG hP hD hS (lv_sub hl [0, 2, 3, 4] rfl)
            · skip
              have hG := hG.trans (if_pos c_2371)
              have gc_2371 := ti_eq c_2371 rfl kc_0
              refine lv_aload_n hx hb dX7_pivot_47 rfl (lv_at hl 3 rfl) ?_
              refine lv_iload_n hx hb dX7_pivot_48 rfl (lv_at hl 0 rfl) ?_
              have hFc := va_freeI hD hS hA
              refine va_calli (va_runV (As := [.int z_2362]) (rest := []) ⟨hx, hb, hml, hown, hts⟩ (tX7_turnOf l dC dI _ oM x_2356 rM_tape iM_taped iM_size iM_at iM_end iM_token iM_whole iM_nameSize iM_fault iM_place x_2357 rM_letters iM_failed iM_hasCourt rM_r fM_r kM_r rM_fresh rM_told fM_told kM_told rM_read rM_st fM_st kM_st rM_undone rM_kept iM_undos iM_images rM_fresher iM_fresherSize iM_scale iM_night rM_heardRow rM_cutRow iM_breaths iM_cutMany iM_allBreaths rM_trial f_2365 kM_trial rM_words iM_fewestBreaths iM_orderMany iM_orderSum iM_leastOrder rM_often iM_setMany iM_someOf iM_allOf iM_allWeight iM_enoughWeight iM_worthSum iM_firstRest iM_leastDrawn z_2362 b_iM_taped b_iM_size b_iM_end b_iM_failed b_iM_hasCourt b_iM_undos b_iM_images b_iM_scale b_iM_breaths b_iM_cutMany (by assumption) (by assumption) (by assumption) (by assumption) (by assumption) ⟨hi0_n_2366.1, (om_644b432c cx_2367 gc_2368)⟩ ⟨r_C1.2.1, r_C1.2.2⟩) (cwV 1 hts (wd_V wd_1143 wd_1144 wd_1145 wd_5 (wd_c wd_1146)) rfl rfl rfl dv_yX7_turnOf_1 ⟨Nat.le_of_ble_eq_true rfl, Nat.le_of_ble_eq_true rfl⟩) ⟨Pw.fb, recvX7 hK hP (q0 := 0) rfl, fun U hU hW => Pw.to hP hD hK hE hS hFc hU hW⟩ rfl rfl hl.1 rfl (lv_room (Nat.le_of_ble_eq_true rfl)) dX7_pivot_49 ⟨Nat.le_of_ble_eq_true rfl, Nat.le_of_ble_eq_true rfl⟩) hS (fun q _ h => hFc q h) hFc (fun r u t H locs ht hvm hw hB hz1 hk1 hS => ?_)
              have hru9 := hw.2
              have hw := hw.1
              refine ex_1_1 hB (fun f_2374 e_f_2374_0 hB => ?_)
              obtain ⟨hP, hD⟩ := Bw.goA (ws' := [(oc7 oM x_2356 rM_tape iM_taped iM_size iM_at iM_end iM_token iM_whole iM_nameSize iM_fault iM_place x_2357 rM_letters iM_failed iM_hasCourt rM_r rM_fresh rM_told rM_read rM_st rM_undone rM_kept iM_undos iM_images rM_fresher iM_fresherSize iM_scale iM_night rM_heardRow rM_cutRow iM_breaths iM_cutMany iM_allBreaths rM_trial rM_words iM_fewestBreaths iM_orderMany iM_orderSum iM_leastOrder rM_often iM_setMany iM_someOf iM_allOf iM_allWeight iM_enoughWeight iM_worthSum iM_firstRest iM_leastDrawn), (arI rM_r kM_r 287 fM_r), (arI rM_told kM_told 90 fM_told), (arI rM_st kM_st 90 fM_st), (arI rM_trial kM_trial 90 f_2374)]) hB rfl ht hFc rfl
              clear hz1 hk1 hvm ht hB
              rw [← hru9] at e_f_2374_0
              obtain ⟨x_2375, rfl⟩ : ∃ z, z = r := ⟨_, rfl⟩
              have hG := hG.trans (un2_eq e_f_2374_0)
              have rg_x_2375 := fb_rng x_2375
              refine lv_goto (tgt := 57) hx hb dX7_pivot_52 (by decide) ?_
              refine lv_istore (lv' := [(4, .int x_2375), (3, .int z_2362), (2, .int z_2363), (1, .int z_2364), (0, .ref oM)]) hx hb dX7_pivot_57 hl (by decide) rfl (fun ls hl => ?_)
              refine lv_iload hx hb dX7_pivot_59 (lv_at hl 0 rfl) ?_
              refine lv_if_lt (tgt := 78) hx hb dX7_pivot_61 (by decide) (fun c_2376 => ?_) (fun c_2376 => ?_)
              · skip
                have hG := hG.trans (if_pos c_2376)
                have gc_2376 := ti_lt c_2376 rfl kc_0
                obtain ⟨x_2377, ex_2377⟩ : ∃ z : Int32, z = z_2362 + Int32.ofInt 1 := ⟨_, rfl⟩
                have hG := hG.trans (lt_eq ex_2377)
                have vx_2377 : x_2377.toInt = z_2362.toInt + 1 := ti_add (y := 1) ex_2377 rfl kc_1 (om_4e4fce7e hi0_n_2366.1) (om_83bd38f8 s_nodes.2 cx_2367 gc_2368)
                refine lv_iinc (v := x_2377) (lv' := [(3, .int x_2377), (4, .int x_2375), (2, .int z_2363), (1, .int z_2364), (0, .ref oM)]) hx hb dX7_pivot_78 hl (k := 1) rfl ex_2377.symm (by decide) rfl (fun ls hl => ?_)
                refine lv_goto (tgt := 25) hx hb dX7_pivot_81 (by decide) ?_
                exact ih_n_2366 x_2377 z_2363 z_2364 f_2374 _ _ _  ⟨(om_83b90de5 hi0_n_2366.1 vx_2377), (om_3052bbb6 s_nodes.2 cx_2367 gc_2368 vx_2377)⟩ (ms_lt hm_n_2366 (om_b9393183 vx_2377) (om_5f9db36c s_nodes.2 cx_2367 gc_2368)) hG hP hD hS (lv_sub hl [0, 2, 3, 4] rfl)
              · skip
                have hG := hG.trans (if_neg c_2376)
                have gc_2376 := ti_nlt c_2376 rfl kc_0
                refine lv_iload hx hb dX7_pivot_64 (lv_at hl 0 rfl) ?_
                refine lv_iload_n hx hb dX7_pivot_66 rfl (lv_at hl 2 rfl) ?_
                refine lv_icmp_lt (tgt := 73) hx hb dX7_pivot_67 (by decide) (fun c_2378 => ?_) (fun c_2378 => ?_)
                · skip
                  have hG := hG.trans (if_pos c_2378)
                  have gc_2378 := ti_lt c_2378 rfl rfl
                  refine lv_iload_n hx hb dX7_pivot_73 rfl (lv_at hl 1 rfl) ?_
                  refine lv_istore_n (lv' := [(1, .int z_2362), (4, .int x_2375), (3, .int z_2362), (2, .int z_2363), (0, .ref oM)]) hx hb dX7_pivot_74 rfl hl (by decide) rfl (fun ls hl => ?_)
                  refine lv_iload hx hb dX7_pivot_75 (lv_at hl 1 rfl) ?_
                  refine lv_istore_n (lv' := [(2, .int x_2375), (1, .int z_2362), (4, .int x_2375), (3, .int z_2362), (0, .ref oM)]) hx hb dX7_pivot_77 rfl hl (by decide) rfl (fun ls hl => ?_)
                  obtain ⟨x_2379, ex_2379⟩ : ∃ z : Int32, z = z_2362 + Int32.ofInt 1 := ⟨_, rfl⟩
                  have hG := hG.trans (lt_eq ex_2379)
                  have vx_2379 : x_2379.toInt = z_2362.toInt + 1 := ti_add (y := 1) ex_2379 rfl kc_1 (om_4e4fce7e hi0_n_2366.1) (om_83bd38f8 s_nodes.2 cx_2367 gc_2368)
                  refine lv_iinc (v := x_2379) (lv' := [(3, .int x_2379), (2, .int x_2375), (1, .int z_2362), (4, .int x_2375), (0, .ref oM)]) hx hb dX7_pivot_78 hl (k := 3) rfl ex_2379.symm (by decide) rfl (fun ls hl => ?_)
                  refine lv_goto (tgt := 25) hx hb dX7_pivot_81 (by decide) ?_
                  exact ih_n_2366 x_2379 x_2375 z_2362 f_2374 _ _ _  ⟨(om_83b90de5 hi0_n_2366.1 vx_2379), (om_3052bbb6 s_nodes.2 cx_2367 gc_2368 vx_2379)⟩ (ms_lt hm_n_2366 (om_b9393183 vx_2379) (om_5f9db36c s_nodes.2 cx_2367 gc_2368)) hG hP hD hS (lv_sub hl [0, 1, 2, 4] rfl)
                · skip
                  have hG := hG.trans (if_neg c_2378)
                  have gc_2378 := ti_nlt c_2378 rfl rfl
                  refine lv_goto (tgt := 78) hx hb dX7_pivot_70 (by decide) ?_
                  obtain ⟨x_2380, ex_2380⟩ : ∃ z : Int32, z = z_2362 + Int32.ofInt 1 := ⟨_, rfl⟩
                  have hG := hG.trans (lt_eq ex_2380)
                  have vx_2380 : x_2380.toInt = z_2362.toInt + 1 := ti_add (y := 1) ex_2380 rfl kc_1 (om_4e4fce7e hi0_n_2366.1) (om_83bd38f8 s_nodes.2 cx_2367 gc_2368)
                  refine lv_iinc (v := x_2380) (lv' := [(3, .int x_2380), (4, .int x_2375), (2, .int z_2363), (1, .int z_2364), (0, .ref oM)]) hx hb dX7_pivot_78 hl (k := 1) rfl ex_2380.symm (by decide) rfl (fun ls hl => ?_)
                  refine lv_goto (tgt := 25) hx hb dX7_pivot_81 (by decide) ?_
                  exact ih_n_2366 x_2380 z_2363 z_2364 f_2374 _ _ _  ⟨(om_83b90de5 hi0_n_2366.1 vx_2380), (om_3052bbb6 s_nodes.2 cx_2367 gc_2368 vx_2380)⟩ (ms_lt hm_n_2366 (om_b9393183 vx_2380) (om_5f9db36c s_nodes.2 cx_2367 gc_2368)) hG hP hD hS (lv_sub hl [0, 2, 3, 4] rfl)
      exact key_n_2366 (((2147483647 - (0 : Int32).toInt).toNat) + 1) 0 100000000 (-2) fM_trial _ _ _  ⟨(om_b1de7dbe kc_0), (om_daf17c64 kc_0)⟩ (Nat.lt_add_one _) hG hP hD hS hl
    · skip
      have hG := hG.trans (if_pos c_2361)
      have gc_2361 := ti_eq c_2361 rfl kc_0
      refine lv_aload_n hx hb dX7_pivot_11 rfl (lv_at hl 0 rfl) ?_
      refine lv_iconst (v := 1) hx hb dX7_pivot_12 (by decide) ?_
      have hMs := ml_of hD [true, false, false, false, false] (wc := [(oc7 oM x_2356 rM_tape iM_taped iM_size iM_at iM_end iM_token iM_whole iM_nameSize iM_fault iM_place x_2357 rM_letters iM_failed iM_hasCourt rM_r rM_fresh rM_told rM_read rM_st rM_undone rM_kept iM_undos iM_images rM_fresher iM_fresherSize iM_scale iM_night rM_heardRow rM_cutRow iM_breaths iM_cutMany iM_allBreaths rM_trial rM_words iM_fewestBreaths iM_orderMany iM_orderSum iM_leastOrder rM_often iM_setMany iM_someOf iM_allOf iM_allWeight iM_enoughWeight iM_worthSum iM_firstRest iM_leastDrawn)]) rfl
      have hFc := va_freeM hD hS hA _ hMs
      refine va_calli (va_runV (As := [.int 1]) (rest := []) ⟨hx, hb, hml, hown, hts⟩ (tX7_no l dC dI _ oM x_2356 rM_tape iM_taped iM_size iM_at iM_end iM_token iM_whole iM_nameSize iM_fault iM_place x_2357 rM_letters iM_failed iM_hasCourt rM_r rM_fresh rM_told rM_read rM_st rM_undone rM_kept iM_undos iM_images rM_fresher iM_fresherSize iM_scale iM_night rM_heardRow rM_cutRow iM_breaths iM_cutMany iM_allBreaths rM_trial rM_words iM_fewestBreaths iM_orderMany iM_orderSum iM_leastOrder rM_often iM_setMany iM_someOf iM_allOf iM_allWeight iM_enoughWeight iM_worthSum iM_firstRest iM_leastDrawn 1 b_iM_taped b_iM_size b_iM_end b_iM_failed b_iM_hasCourt b_iM_undos b_iM_images b_iM_scale b_iM_breaths b_iM_cutMany) (cwV 1 hts (wd_V wd_396 wd_397 wd_398 wd_5 (wd_c wd_399)) rfl rfl rfl dv_yX7_no_1 ⟨Nat.le_of_ble_eq_true rfl, Nat.le_of_ble_eq_true rfl⟩) ⟨Pw.fb, recvX7 hK hP (q0 := 0) rfl, fun U hU hW => Pw.to (hP.ms _ hMs) (hD.ms _ hMs) (hK.ms [false, false, false, false] rfl) hE hS hFc hU hW⟩ rfl rfl hl.1 rfl (lv_room (Nat.le_of_ble_eq_true rfl)) dX7_pivot_13 ⟨Nat.le_of_ble_eq_true rfl, Nat.le_of_ble_eq_true rfl⟩) hS (fun q _ h => hFc q h) hFc (fun r u t H locs ht hvm hw hB hz1 hk1 hS => ?_)
      have hru9 := hw.2
      have hw := hw.1
      refine ex_1_1 hB (fun x_2381 e_x_2381_0 hB => ?_)
      obtain ⟨hP, hD⟩ := Bw.goN (ws' := [(oc7 oM x_2356 rM_tape iM_taped iM_size iM_at iM_end iM_token iM_whole iM_nameSize iM_fault iM_place x_2381 rM_letters iM_failed iM_hasCourt rM_r rM_fresh rM_told rM_read rM_st rM_undone rM_kept iM_undos iM_images rM_fresher iM_fresherSize iM_scale iM_night rM_heardRow rM_cutRow iM_breaths iM_cutMany iM_allBreaths rM_trial rM_words iM_fewestBreaths iM_orderMany iM_orderSum iM_leastOrder rM_often iM_setMany iM_someOf iM_allOf iM_allWeight iM_enoughWeight iM_worthSum iM_firstRest iM_leastDrawn), (arI rM_r kM_r 287 fM_r), (arI rM_told kM_told 90 fM_told), (arI rM_st kM_st 90 fM_st), (arI rM_trial kM_trial 90 fM_trial)]) hB rfl ht hP hD _ hMs hk1 hFc rfl
      clear hz1 hk1 hvm ht hB hMs
      have rg_x_2381 := fb_rng x_2381
      rw [← hru9] at e_x_2381_0
      obtain ⟨x_2382, rfl⟩ : ∃ z, z = r := ⟨_, rfl⟩
      have hG := hG.trans (un2_eq e_x_2381_0)
      have rg_x_2382 := fb_rng x_2382
      exact wq_i hx hb hr (cI x_2382) ⟨⟨trivial, trivial⟩, (cI_of x_2382)⟩ (fun t ht hW => ⟨x_2356, x_2381, fM_trial, (cI_tup hG), Bw.to hP hD hK ht hW⟩) hS dX7_pivot_16 hlocks
set_option maxHeartbeats 4000000 in
set_option maxRecDepth 100000 in
theorem tX7_doesFit (l : Launch) (dC : Nat → ClassId) (dI : Nat → Nat → Nat) (sz : Nat) (oM : Nat) (iM_thrown : Int32) (rM_tape : Nat) (iM_taped : Int32) (iM_size : Int32) (iM_at : Int32) (iM_end : Int32) (iM_token : Int32) (iM_whole : Int32) (iM_nameSize : Int32) (iM_fault : Int32) (iM_place : Int32) (iM_trouble : Int32) (rM_letters : Nat) (iM_failed : Int32) (iM_hasCourt : Int32) (rM_r : Nat) (fM_r : Nat → Int32) (kM_r : ClassId) (rM_fresh : Nat) (rM_told : Nat) (fM_told : Nat → Int32) (kM_told : ClassId) (rM_read : Nat) (rM_st : Nat) (rM_undone : Nat) (rM_kept : Nat) (iM_undos : Int32) (iM_images : Int32) (rM_fresher : Nat) (iM_fresherSize : Int32) (iM_scale : Int32) (iM_night : Int32) (rM_heardRow : Nat) (rM_cutRow : Nat) (iM_breaths : Int32) (iM_cutMany : Int32) (iM_allBreaths : Int32) (rM_trial : Nat) (fM_trial : Nat → Int32) (kM_trial : ClassId) (rM_words : Nat) (iM_fewestBreaths : Int32) (iM_orderMany : Int32) (iM_orderSum : Int32) (iM_leastOrder : Int32) (rM_often : Nat) (iM_setMany : Int32) (iM_someOf : Int32) (iM_allOf : Int32) (iM_allWeight : Int64) (iM_enoughWeight : Int64) (iM_worthSum : Int64) (iM_firstRest : Int32) (iM_leastDrawn : Int32) (p0 : Int32) (b_iM_taped : 0 ≤ iM_taped.toInt ∧ iM_taped.toInt ≤ 900) (b_iM_size : 0 ≤ iM_size.toInt ∧ iM_size.toInt ≤ 900) (b_iM_end : 0 ≤ iM_end.toInt ∧ iM_end.toInt ≤ 900) (b_iM_failed : 0 ≤ iM_failed.toInt ∧ iM_failed.toInt ≤ 1) (b_iM_hasCourt : 0 ≤ iM_hasCourt.toInt ∧ iM_hasCourt.toInt ≤ 1) (b_iM_undos : 0 ≤ iM_undos.toInt ∧ iM_undos.toInt ≤ 16) (b_iM_images : 0 ≤ iM_images.toInt ∧ iM_images.toInt ≤ 3) (b_iM_scale : 1 ≤ iM_scale.toInt ∧ iM_scale.toInt ≤ 1296) (b_iM_breaths : 0 ≤ iM_breaths.toInt ∧ iM_breaths.toInt ≤ 399) (b_iM_cutMany : 0 ≤ iM_cutMany.toInt ∧ iM_cutMany.toInt ≤ 399) (r_R : ROk fM_r) (r_C : iM_hasCourt.toInt ≤ 0 ∨ (1 ≤ (fM_r 1).toInt ∧ 0 ≤ (fM_r 6).toInt ∧ (fM_r 6).toInt < (fM_r 1).toInt)) (r_told : RowOk fM_r fM_told) (hth : 0 ≤ (fM_r 6).toInt ∧ (fM_r 6).toInt < (fM_r 1).toInt) : Met l yX7_doesFit (Cond.code yX7_doesFit cX7_doesFit 2 (some .boolean) :: wG) ({ frames := 22, cells := 0, slots := 0, locals := 585 }) (va_Pc [.ref oM, .int p0] (Pw dC dI sz [(oc7 oM iM_thrown rM_tape iM_taped iM_size iM_at iM_end iM_token iM_whole iM_nameSize iM_fault iM_place iM_trouble rM_letters iM_failed iM_hasCourt rM_r rM_fresh rM_told rM_read rM_st rM_undone rM_kept iM_undos iM_images rM_fresher iM_fresherSize iM_scale iM_night rM_heardRow rM_cutRow iM_breaths iM_cutMany iM_allBreaths rM_trial rM_words iM_fewestBreaths iM_orderMany iM_orderSum iM_leastOrder rM_often iM_setMany iM_someOf iM_allOf iM_allWeight iM_enoughWeight iM_worthSum iM_firstRest iM_leastDrawn), (arI rM_r kM_r 287 fM_r), (arI rM_told kM_told 90 fM_told), (arI rM_trial kM_trial 90 fM_trial)] [(kM_r, .int), (kM_told, .int), (kM_trial, .int)])) (va_Qi (fun (r : Int32) (_ : Nat) => (r = 0 ∨ r = 1) ∧ True) (fun (_ : Nat) (t : State) => ∃ (nfM_trial : Nat → Int32), Bw dC dI (va_A [(oc7 oM iM_thrown rM_tape iM_taped iM_size iM_at iM_end iM_token iM_whole iM_nameSize iM_fault iM_place iM_trouble rM_letters iM_failed iM_hasCourt rM_r rM_fresh rM_told rM_read rM_st rM_undone rM_kept iM_undos iM_images rM_fresher iM_fresherSize iM_scale iM_night rM_heardRow rM_cutRow iM_breaths iM_cutMany iM_allBreaths rM_trial rM_words iM_fewestBreaths iM_orderMany iM_orderSum iM_leastOrder rM_often iM_setMany iM_someOf iM_allOf iM_allWeight iM_enoughWeight iM_worthSum iM_firstRest iM_leastDrawn), (arI rM_r kM_r 287 fM_r), (arI rM_told kM_told 90 fM_told), (arI rM_trial kM_trial 90 fM_trial)] sz) [(oc7 oM iM_thrown rM_tape iM_taped iM_size iM_at iM_end iM_token iM_whole iM_nameSize iM_fault iM_place iM_trouble rM_letters iM_failed iM_hasCourt rM_r rM_fresh rM_told rM_read rM_st rM_undone rM_kept iM_undos iM_images rM_fresher iM_fresherSize iM_scale iM_night rM_heardRow rM_cutRow iM_breaths iM_cutMany iM_allBreaths rM_trial rM_words iM_fewestBreaths iM_orderMany iM_orderSum iM_leastOrder rM_often iM_setMany iM_someOf iM_allOf iM_allWeight iM_enoughWeight iM_worthSum iM_firstRest iM_leastDrawn), (arI rM_r kM_r 287 fM_r), (arI rM_told kM_told 90 fM_told), (arI rM_trial kM_trial 90 nfM_trial)] [(kM_r, .int), (kM_told, .int), (kM_trial, .int)] t) (va_A [(oc7 oM iM_thrown rM_tape iM_taped iM_size iM_at iM_end iM_token iM_whole iM_nameSize iM_fault iM_place iM_trouble rM_letters iM_failed iM_hasCourt rM_r rM_fresh rM_told rM_read rM_st rM_undone rM_kept iM_undos iM_images rM_fresher iM_fresherSize iM_scale iM_night rM_heardRow rM_cutRow iM_breaths iM_cutMany iM_allBreaths rM_trial rM_words iM_fewestBreaths iM_orderMany iM_orderSum iM_leastOrder rM_often iM_setMany iM_someOf iM_allOf iM_allWeight iM_enoughWeight iM_worthSum iM_firstRest iM_leastDrawn), (arI rM_r kM_r 287 fM_r), (arI rM_told kM_told 90 fM_told), (arI rM_trial kM_trial 90 fM_trial)] sz)) 0 0 (va_A [(oc7 oM iM_thrown rM_tape iM_taped iM_size iM_at iM_end iM_token iM_whole iM_nameSize iM_fault iM_place iM_trouble rM_letters iM_failed iM_hasCourt rM_r rM_fresh rM_told rM_read rM_st rM_undone rM_kept iM_undos iM_images rM_fresher iM_fresherSize iM_scale iM_night rM_heardRow rM_cutRow iM_breaths iM_cutMany iM_allBreaths rM_trial rM_words iM_fewestBreaths iM_orderMany iM_orderSum iM_leastOrder rM_often iM_setMany iM_someOf iM_allOf iM_allWeight iM_enoughWeight iM_worthSum iM_firstRest iM_leastDrawn), (arI rM_r kM_r 287 fM_r), (arI rM_told kM_told 90 fM_told), (arI rM_trial kM_trial 90 fM_trial)] sz) := by
  refine Met.ofW (cc := cX7_doesFit) (maxL := 2) (ret := (some .boolean)) pnX7 rfl ?_
  intro p e s m args below meth c s₁ B hml hv
  obtain ⟨rfl, hsz, hP, hK, hD0, hE⟩ := hv
  have hx := B.exec
  have hb := B.bytes
  have hr := B.returns
  have hts : ∀ w ∈ wG, w.before ([.ref oM, .int p0] : List Value).toArray s = true := fun w h => atoms_spec (ws := Cond.code yX7_doesFit cX7_doesFit 2 (some .boolean) :: wG) B.pre w (List.mem_cons_of_mem _ h)
  have hown : s.vm.findClass RX7 = some m.cls := own_of B.named rfl
  have hlocks := B.notSynchronized
  subst hsz
  have hD := hD0.self (sz := s.heap.size)
  generalize hAe : va_A [(oc7 oM iM_thrown rM_tape iM_taped iM_size iM_at iM_end iM_token iM_whole iM_nameSize iM_fault iM_place iM_trouble rM_letters iM_failed iM_hasCourt rM_r rM_fresh rM_told rM_read rM_st rM_undone rM_kept iM_undos iM_images rM_fresher iM_fresherSize iM_scale iM_night rM_heardRow rM_cutRow iM_breaths iM_cutMany iM_allBreaths rM_trial rM_words iM_fewestBreaths iM_orderMany iM_orderSum iM_leastOrder rM_often iM_setMany iM_someOf iM_allOf iM_allWeight iM_enoughWeight iM_worthSum iM_firstRest iM_leastDrawn), (arI rM_r kM_r 287 fM_r), (arI rM_told kM_told 90 fM_told), (arI rM_trial kM_trial 90 fM_trial)] s.heap.size = A at hD hE ⊢
  have hA : ∀ q : Nat, s.heap.size ≤ q → A q := fun q h => by rw [← hAe]; exact Or.inr h
  have hS : va_S A s.heap s.heap [] := va_S.rf
  have hl := lv_entry ([.ref oM, .int p0]) (n := 2) (Nat.le_of_ble_eq_true rfl)
  rw [lg_entry_eq]
  generalize (lg_sl ([.ref oM, .int p0]) ++ List.replicate (2 - (lg_sl ([.ref oM, .int p0])).length) Slot.unset).toArray = ls at hl ⊢
  have hl : lv_has ls 2 [(0, .ref oM), (1, .int p0)] := hl
  have s_slips := r_R.slips
  have s_nodes := r_R.nodes
  have s_uns := r_R.uns
  refine lv_aload_n hx hb dX7_doesFit_0 rfl (lv_at hl 0 rfl) ?_
  refine lv_aload_n hx hb dX7_doesFit_1 rfl (lv_at hl 0 rfl) ?_
  refine va_get (D := (dC, dI)) (ci := 7) (v := .ref rM_told) (C := RX7) (T := TX7) (N := 48) hx hb hts inX7 hown hK hP 0 rfl rfl 17 (by decide) (hts _ wd_157) (fun _ h9 => h9) rfl dX7_doesFit_2 ?_
  refine lv_iload_n hx hb dX7_doesFit_5 rfl (lv_at hl 1 rfl) ?_
  have hFc := va_free (wc := [(oc7 oM iM_thrown rM_tape iM_taped iM_size iM_at iM_end iM_token iM_whole iM_nameSize iM_fault iM_place iM_trouble rM_letters iM_failed iM_hasCourt rM_r rM_fresh rM_told rM_read rM_st rM_undone rM_kept iM_undos iM_images rM_fresher iM_fresherSize iM_scale iM_night rM_heardRow rM_cutRow iM_breaths iM_cutMany iM_allBreaths rM_trial rM_words iM_fewestBreaths iM_orderMany iM_orderSum iM_leastOrder rM_often iM_setMany iM_someOf iM_allOf iM_allWeight iM_enoughWeight iM_worthSum iM_firstRest iM_leastDrawn), (arI rM_r kM_r 287 fM_r), (arI rM_trial kM_trial 90 fM_trial), (arI rM_told kM_told 90 fM_told)]) hD hS hA [0, 1, 3, 2] rfl
  refine va_callv (va_runV (As := [.ref rM_told, .int p0]) (rest := []) ⟨hx, hb, hml, hown, hts⟩ (tX7_slipBy l dC dI _ oM iM_thrown rM_tape iM_taped iM_size iM_at iM_end iM_token iM_whole iM_nameSize iM_fault iM_place iM_trouble rM_letters iM_failed iM_hasCourt rM_r fM_r kM_r rM_fresh rM_told rM_read rM_st rM_undone rM_kept iM_undos iM_images rM_fresher iM_fresherSize iM_scale iM_night rM_heardRow rM_cutRow iM_breaths iM_cutMany iM_allBreaths rM_trial fM_trial kM_trial rM_words iM_fewestBreaths iM_orderMany iM_orderSum iM_leastOrder rM_often iM_setMany iM_someOf iM_allOf iM_allWeight iM_enoughWeight iM_worthSum iM_firstRest iM_leastDrawn rM_told fM_told kM_told p0 b_iM_taped b_iM_size b_iM_end b_iM_failed b_iM_hasCourt b_iM_undos b_iM_images b_iM_scale b_iM_breaths b_iM_cutMany (by assumption) (by assumption) (by assumption)) (cwV 2 hts (wd_V wd_1192 wd_1193 wd_1194 wd_5 (wd_c wd_1195)) rfl rfl rfl dv_yX7_slipBy_2 ⟨Nat.le_of_ble_eq_true rfl, Nat.le_of_ble_eq_true rfl⟩) ⟨Pw.fb, recvX7 hK hP (q0 := 0) rfl, fun U hU hW => Pw.to (hP.sub [0, 1, 3, 2] rfl) (hD.sub [0, 1, 3, 2] (by decide) rfl) (hK.sub [0, 2, 1] rfl) hE hS hFc hU hW⟩ rfl rfl hl.1 rfl (lv_room (Nat.le_of_ble_eq_true rfl)) dX7_doesFit_6 ⟨Nat.le_of_ble_eq_true rfl, Nat.le_of_ble_eq_true rfl⟩) hS (fun q _ h => hFc q h) hFc (fun u t H locs ht hvm hw hB hz1 hk1 hS => ?_)
  refine ex_1_1 hB (fun f_2391 e_f_2391_0 hB => ?_)
  obtain ⟨hP, hD, hK⟩ := Bw.go (ws' := [(oc7 oM iM_thrown rM_tape iM_taped iM_size iM_at iM_end iM_token iM_whole iM_nameSize iM_fault iM_place iM_trouble rM_letters iM_failed iM_hasCourt rM_r rM_fresh rM_told rM_read rM_st rM_undone rM_kept iM_undos iM_images rM_fresher iM_fresherSize iM_scale iM_night rM_heardRow rM_cutRow iM_breaths iM_cutMany iM_allBreaths rM_trial rM_words iM_fewestBreaths iM_orderMany iM_orderSum iM_leastOrder rM_often iM_setMany iM_someOf iM_allOf iM_allWeight iM_enoughWeight iM_worthSum iM_firstRest iM_leastDrawn), (arI rM_r kM_r 287 fM_r), (arI rM_trial kM_trial 90 f_2391), (arI rM_told kM_told 90 fM_told)]) (tys' := [(kM_r, .int), (kM_trial, .int), (kM_told, .int)]) hB rfl ht hvm hP hD hK [0, 1, 3, 2] [] rfl (by decide) (by decide) [] hk1 hFc rfl rfl rfl
  clear hz1 hk1 hvm ht hB
  refine lv_aload_n hx hb dX7_doesFit_9 rfl (lv_at hl 0 rfl) ?_
  refine va_get (D := (dC, dI)) (ci := 7) (v := .ref rM_r) (C := RX7) (T := TX7) (N := 48) hx hb hts inX7 hown hK hP 0 rfl rfl 15 (by decide) (hts _ wd_155) (fun _ h9 => h9) rfl dX7_doesFit_10 ?_
  refine lv_iconst (v := 4) hx hb dX7_doesFit_13 (by decide) ?_
  refine va_iald hx hb hK hP 1 0 rfl rfl (by unfold vp_in; decide) dX7_doesFit_14 ?_
  refine lv_topi (fun x_2392 ex_2392 => ?_)
  have cx_2392 : (fM_r 4).toInt = x_2392.toInt := congrArg Int32.toInt (show fM_r 4 = x_2392 from ex_2392.symm)
  refine lv_if_eq (tgt := 42) hx hb dX7_doesFit_15 (by decide) (fun c_2393 => ?_) (fun c_2393 => ?_)
  · skip
    have gc_2393 := ti_eq c_2393 rfl kc_0
    refine lv_iconst (v := 1) hx hb dX7_doesFit_42 (by decide) ?_
    refine lv_goto (tgt := 47) hx hb dX7_doesFit_43 (by decide) ?_
    exact wq_z (v := 1) hx hb hr rfl 0 ⟨Or.inr rfl, trivial⟩ (fun t ht hW => ⟨f_2391, Bw.to (hP.sub [0, 1, 3, 2] rfl) (hD.sub [0, 1, 3, 2] (by decide) rfl) (hK.sub [0, 2, 1] rfl) ht hW⟩) hS dX7_doesFit_47 hlocks
  · skip
    have gc_2393 := ti_ne c_2393 rfl kc_0
    refine lv_aload_n hx hb dX7_doesFit_18 rfl (lv_at hl 0 rfl) ?_
    refine lv_aload_n hx hb dX7_doesFit_19 rfl (lv_at hl 0 rfl) ?_
    refine va_get (D := (dC, dI)) (ci := 7) (v := .ref rM_trial) (C := RX7) (T := TX7) (N := 48) hx hb hts inX7 hown hK hP 0 rfl rfl 33 (by decide) (hts _ wd_167) (fun _ h9 => h9) rfl dX7_doesFit_20 ?_
    have hFc := va_free (wc := [(oc7 oM iM_thrown rM_tape iM_taped iM_size iM_at iM_end iM_token iM_whole iM_nameSize iM_fault iM_place iM_trouble rM_letters iM_failed iM_hasCourt rM_r rM_fresh rM_told rM_read rM_st rM_undone rM_kept iM_undos iM_images rM_fresher iM_fresherSize iM_scale iM_night rM_heardRow rM_cutRow iM_breaths iM_cutMany iM_allBreaths rM_trial rM_words iM_fewestBreaths iM_orderMany iM_orderSum iM_leastOrder rM_often iM_setMany iM_someOf iM_allOf iM_allWeight iM_enoughWeight iM_worthSum iM_firstRest iM_leastDrawn), (arI rM_r kM_r 287 fM_r), (arI rM_told kM_told 90 fM_told), (arI rM_trial kM_trial 90 f_2391)]) hD hS hA [0, 1, 3, 2] rfl
    refine va_calli (va_runV (As := [.ref rM_trial]) (rest := []) ⟨hx, hb, hml, hown, hts⟩ (tX7_throneBy l dC dI _ oM iM_thrown rM_tape iM_taped iM_size iM_at iM_end iM_token iM_whole iM_nameSize iM_fault iM_place iM_trouble rM_letters iM_failed iM_hasCourt rM_r fM_r kM_r rM_fresh rM_told fM_told kM_told rM_read rM_st rM_undone rM_kept iM_undos iM_images rM_fresher iM_fresherSize iM_scale iM_night rM_heardRow rM_cutRow iM_breaths iM_cutMany iM_allBreaths rM_trial rM_words iM_fewestBreaths iM_orderMany iM_orderSum iM_leastOrder rM_often iM_setMany iM_someOf iM_allOf iM_allWeight iM_enoughWeight iM_worthSum iM_firstRest iM_leastDrawn rM_trial f_2391 kM_trial b_iM_taped b_iM_size b_iM_end b_iM_failed b_iM_hasCourt b_iM_undos b_iM_images b_iM_scale b_iM_breaths b_iM_cutMany (by assumption) (by assumption) (by assumption) (by assumption) ⟨hth.1, hth.2⟩) (cwV 1 hts (wd_V wd_979 wd_980 wd_981 wd_5 (wd_c wd_982)) rfl rfl rfl dv_yX7_throneBy_1 ⟨Nat.le_of_ble_eq_true rfl, Nat.le_of_ble_eq_true rfl⟩) ⟨Pw.fb, recvX7 hK hP (q0 := 0) rfl, fun U hU hW => Pw.to (hP.sub [0, 1, 3, 2] rfl) (hD.sub [0, 1, 3, 2] (by decide) rfl) (hK.sub [0, 2, 1] rfl) hE hS hFc hU hW⟩ rfl rfl hl.1 rfl (lv_room (Nat.le_of_ble_eq_true rfl)) dX7_doesFit_23 ⟨Nat.le_of_ble_eq_true rfl, Nat.le_of_ble_eq_true rfl⟩) hS (fun q _ h => hFc q h) hFc (fun r u t H locs ht hvm hw hB hz1 hk1 hS => ?_)
    have hru9 := hw.2
    have hw := hw.1
    obtain ⟨hP, hD, hK⟩ := Bw.go (ws' := [(oc7 oM iM_thrown rM_tape iM_taped iM_size iM_at iM_end iM_token iM_whole iM_nameSize iM_fault iM_place iM_trouble rM_letters iM_failed iM_hasCourt rM_r rM_fresh rM_told rM_read rM_st rM_undone rM_kept iM_undos iM_images rM_fresher iM_fresherSize iM_scale iM_night rM_heardRow rM_cutRow iM_breaths iM_cutMany iM_allBreaths rM_trial rM_words iM_fewestBreaths iM_orderMany iM_orderSum iM_leastOrder rM_often iM_setMany iM_someOf iM_allOf iM_allWeight iM_enoughWeight iM_worthSum iM_firstRest iM_leastDrawn), (arI rM_r kM_r 287 fM_r), (arI rM_told kM_told 90 fM_told), (arI rM_trial kM_trial 90 f_2391)]) (tys' := [(kM_r, .int), (kM_told, .int), (kM_trial, .int)]) hB rfl ht hvm hP hD hK [0, 1, 3, 2] [] rfl (by decide) (by decide) [] hk1 hFc rfl rfl rfl
    clear hz1 hk1 hvm ht hB
    obtain ⟨x_2394, rfl⟩ : ∃ z, z = r := ⟨_, rfl⟩
    refine lv_aload_n hx hb dX7_doesFit_26 rfl (lv_at hl 0 rfl) ?_
    refine va_get (D := (dC, dI)) (ci := 7) (v := .int iM_scale) (C := RX7) (T := TX7) (N := 48) hx hb hts inX7 hown hK hP 0 rfl rfl 26 (by decide) (hts _ wd_163) (fun _ h9 => h9) rfl dX7_doesFit_27 ?_
    refine lv_idiv hx hb dX7_doesFit_30 (ti_n0 rfl (by omega)) ?_
    refine lv_topi (fun x_2395 ex_2395 => ?_)
    refine lv_aload_n hx hb dX7_doesFit_31 rfl (lv_at hl 0 rfl) ?_
    refine va_get (D := (dC, dI)) (ci := 7) (v := .ref rM_r) (C := RX7) (T := TX7) (N := 48) hx hb hts inX7 hown hK hP 0 rfl rfl 15 (by decide) (hts _ wd_155) (fun _ h9 => h9) rfl dX7_doesFit_32 ?_
    refine lv_iconst (v := 4) hx hb dX7_doesFit_35 (by decide) ?_
    refine va_iald hx hb hK hP 1 0 rfl rfl (by unfold vp_in; decide) dX7_doesFit_36 ?_
    refine lv_topi (fun x_2396 ex_2396 => ?_)
    have cx_2396 : (fM_r 4).toInt = x_2396.toInt := congrArg Int32.toInt (show fM_r 4 = x_2396 from ex_2396.symm)
    refine lv_iconst (v := 1) hx hb dX7_doesFit_37 (by decide) ?_
    refine lv_isub hx hb dX7_doesFit_38 ?_
    refine lv_topi (fun x_2397 ex_2397 => ?_)
    refine lv_icmp_ne (tgt := 46) hx hb dX7_doesFit_39 (by decide) (fun c_2398 => ?_) (fun c_2398 => ?_)
    · skip
      have gc_2398 := ti_ne c_2398 rfl rfl
      refine lv_iconst (v := 0) hx hb dX7_doesFit_46 (by decide) ?_
      exact wq_z (v := 0) hx hb hr rfl 0 ⟨Or.inl rfl, trivial⟩ (fun t ht hW => ⟨f_2391, Bw.to hP hD hK ht hW⟩) hS dX7_doesFit_47 hlocks
    · skip
      have gc_2398 := ti_eq c_2398 rfl rfl
      refine lv_iconst (v := 1) hx hb dX7_doesFit_42 (by decide) ?_
      refine lv_goto (tgt := 47) hx hb dX7_doesFit_43 (by decide) ?_
      exact wq_z (v := 1) hx hb hr rfl 0 ⟨Or.inr rfl, trivial⟩ (fun t ht hW => ⟨f_2391, Bw.to hP hD hK ht hW⟩) hS dX7_doesFit_47 hlocks
set_option maxHeartbeats 4000000 in
set_option maxRecDepth 100000 in
theorem tX7_seekSets (l : Launch) (dC : Nat → ClassId) (dI : Nat → Nat → Nat) (sz : Nat) (oM : Nat) (iM_thrown : Int32) (rM_tape : Nat) (iM_taped : Int32) (iM_size : Int32) (iM_at : Int32) (iM_end : Int32) (iM_token : Int32) (iM_whole : Int32) (iM_nameSize : Int32) (iM_fault : Int32) (iM_place : Int32) (iM_trouble : Int32) (rM_letters : Nat) (iM_failed : Int32) (iM_hasCourt : Int32) (rM_r : Nat) (fM_r : Nat → Int32) (kM_r : ClassId) (rM_fresh : Nat) (rM_told : Nat) (fM_told : Nat → Int32) (kM_told : ClassId) (rM_read : Nat) (rM_st : Nat) (rM_undone : Nat) (rM_kept : Nat) (iM_undos : Int32) (iM_images : Int32) (rM_fresher : Nat) (iM_fresherSize : Int32) (iM_scale : Int32) (iM_night : Int32) (rM_heardRow : Nat) (rM_cutRow : Nat) (iM_breaths : Int32) (iM_cutMany : Int32) (iM_allBreaths : Int32) (rM_trial : Nat) (fM_trial : Nat → Int32) (kM_trial : ClassId) (rM_words : Nat) (iM_fewestBreaths : Int32) (iM_orderMany : Int32) (iM_orderSum : Int32) (iM_leastOrder : Int32) (rM_often : Nat) (fM_often : Nat → Int32) (kM_often : ClassId) (iM_setMany : Int32) (iM_someOf : Int32) (iM_allOf : Int32) (iM_allWeight : Int64) (iM_enoughWeight : Int64) (iM_worthSum : Int64) (iM_firstRest : Int32) (iM_leastDrawn : Int32) (p0 : Int32) (b_iM_taped : 0 ≤ iM_taped.toInt ∧ iM_taped.toInt ≤ 900) (b_iM_size : 0 ≤ iM_size.toInt ∧ iM_size.toInt ≤ 900) (b_iM_end : 0 ≤ iM_end.toInt ∧ iM_end.toInt ≤ 900) (b_iM_failed : 0 ≤ iM_failed.toInt ∧ iM_failed.toInt ≤ 1) (b_iM_hasCourt : 0 ≤ iM_hasCourt.toInt ∧ iM_hasCourt.toInt ≤ 1) (b_iM_undos : 0 ≤ iM_undos.toInt ∧ iM_undos.toInt ≤ 16) (b_iM_images : 0 ≤ iM_images.toInt ∧ iM_images.toInt ≤ 3) (b_iM_scale : 1 ≤ iM_scale.toInt ∧ iM_scale.toInt ≤ 1296) (b_iM_breaths : 0 ≤ iM_breaths.toInt ∧ iM_breaths.toInt ≤ 399) (b_iM_cutMany : 0 ≤ iM_cutMany.toInt ∧ iM_cutMany.toInt ≤ 399) (r_R : ROk fM_r) (r_C : iM_hasCourt.toInt ≤ 0 ∨ (1 ≤ (fM_r 1).toInt ∧ 0 ≤ (fM_r 6).toInt ∧ (fM_r 6).toInt < (fM_r 1).toInt)) (r_told : RowOk fM_r fM_told) (hth : 0 ≤ (fM_r 6).toInt ∧ (fM_r 6).toInt < (fM_r 1).toInt) : Met l yX7_seekSets (Cond.code yX7_seekSets cX7_seekSets 5 (some .int) :: wG) ({ frames := 23, cells := 0, slots := 0, locals := 606 }) (va_Pc [.ref oM, .int p0] (Pw dC dI sz [(oc7 oM iM_thrown rM_tape iM_taped iM_size iM_at iM_end iM_token iM_whole iM_nameSize iM_fault iM_place iM_trouble rM_letters iM_failed iM_hasCourt rM_r rM_fresh rM_told rM_read rM_st rM_undone rM_kept iM_undos iM_images rM_fresher iM_fresherSize iM_scale iM_night rM_heardRow rM_cutRow iM_breaths iM_cutMany iM_allBreaths rM_trial rM_words iM_fewestBreaths iM_orderMany iM_orderSum iM_leastOrder rM_often iM_setMany iM_someOf iM_allOf iM_allWeight iM_enoughWeight iM_worthSum iM_firstRest iM_leastDrawn), (arI rM_r kM_r 287 fM_r), (arI rM_told kM_told 90 fM_told), (arI rM_trial kM_trial 90 fM_trial), (arI rM_often kM_often 4 fM_often)] [(kM_r, .int), (kM_told, .int), (kM_trial, .int), (kM_often, .int)])) (va_Qi (fun (r : Int32) (_ : Nat) => True ∧ True) (fun (_ : Nat) (t : State) => ∃ (niM_setMany : Int32) (niM_someOf : Int32) (niM_allOf : Int32) (nfM_trial : Nat → Int32) (nfM_often : Nat → Int32), Bw dC dI (va_A [(oc7 oM iM_thrown rM_tape iM_taped iM_size iM_at iM_end iM_token iM_whole iM_nameSize iM_fault iM_place iM_trouble rM_letters iM_failed iM_hasCourt rM_r rM_fresh rM_told rM_read rM_st rM_undone rM_kept iM_undos iM_images rM_fresher iM_fresherSize iM_scale iM_night rM_heardRow rM_cutRow iM_breaths iM_cutMany iM_allBreaths rM_trial rM_words iM_fewestBreaths iM_orderMany iM_orderSum iM_leastOrder rM_often iM_setMany iM_someOf iM_allOf iM_allWeight iM_enoughWeight iM_worthSum iM_firstRest iM_leastDrawn), (arI rM_r kM_r 287 fM_r), (arI rM_told kM_told 90 fM_told), (arI rM_trial kM_trial 90 fM_trial), (arI rM_often kM_often 4 fM_often)] sz) [(oc7 oM iM_thrown rM_tape iM_taped iM_size iM_at iM_end iM_token iM_whole iM_nameSize iM_fault iM_place iM_trouble rM_letters iM_failed iM_hasCourt rM_r rM_fresh rM_told rM_read rM_st rM_undone rM_kept iM_undos iM_images rM_fresher iM_fresherSize iM_scale iM_night rM_heardRow rM_cutRow iM_breaths iM_cutMany iM_allBreaths rM_trial rM_words iM_fewestBreaths iM_orderMany iM_orderSum iM_leastOrder rM_often niM_setMany niM_someOf niM_allOf iM_allWeight iM_enoughWeight iM_worthSum iM_firstRest iM_leastDrawn), (arI rM_r kM_r 287 fM_r), (arI rM_told kM_told 90 fM_told), (arI rM_trial kM_trial 90 nfM_trial), (arI rM_often kM_often 4 nfM_often)] [(kM_r, .int), (kM_told, .int), (kM_trial, .int), (kM_often, .int)] t) (va_A [(oc7 oM iM_thrown rM_tape iM_taped iM_size iM_at iM_end iM_token iM_whole iM_nameSize iM_fault iM_place iM_trouble rM_letters iM_failed iM_hasCourt rM_r rM_fresh rM_told rM_read rM_st rM_undone rM_kept iM_undos iM_images rM_fresher iM_fresherSize iM_scale iM_night rM_heardRow rM_cutRow iM_breaths iM_cutMany iM_allBreaths rM_trial rM_words iM_fewestBreaths iM_orderMany iM_orderSum iM_leastOrder rM_often iM_setMany iM_someOf iM_allOf iM_allWeight iM_enoughWeight iM_worthSum iM_firstRest iM_leastDrawn), (arI rM_r kM_r 287 fM_r), (arI rM_told kM_told 90 fM_told), (arI rM_trial kM_trial 90 fM_trial), (arI rM_often kM_often 4 fM_often)] sz)) 0 0 (va_A [(oc7 oM iM_thrown rM_tape iM_taped iM_size iM_at iM_end iM_token iM_whole iM_nameSize iM_fault iM_place iM_trouble rM_letters iM_failed iM_hasCourt rM_r rM_fresh rM_told rM_read rM_st rM_undone rM_kept iM_undos iM_images rM_fresher iM_fresherSize iM_scale iM_night rM_heardRow rM_cutRow iM_breaths iM_cutMany iM_allBreaths rM_trial rM_words iM_fewestBreaths iM_orderMany iM_orderSum iM_leastOrder rM_often iM_setMany iM_someOf iM_allOf iM_allWeight iM_enoughWeight iM_worthSum iM_firstRest iM_leastDrawn), (arI rM_r kM_r 287 fM_r), (arI rM_told kM_told 90 fM_told), (arI rM_trial kM_trial 90 fM_trial), (arI rM_often kM_often 4 fM_often)] sz) := by
  refine Met.ofW (cc := cX7_seekSets) (maxL := 5) (ret := (some .int)) pnX7 rfl ?_
  intro p e s m args below meth c s₁ B hml hv
  obtain ⟨rfl, hsz, hP, hK, hD0, hE⟩ := hv
  have hx := B.exec
  have hb := B.bytes
  have hr := B.returns
  have hts : ∀ w ∈ wG, w.before ([.ref oM, .int p0] : List Value).toArray s = true := fun w h => atoms_spec (ws := Cond.code yX7_seekSets cX7_seekSets 5 (some .int) :: wG) B.pre w (List.mem_cons_of_mem _ h)
  have hown : s.vm.findClass RX7 = some m.cls := own_of B.named rfl
  have hlocks := B.notSynchronized
  subst hsz
  have hD := hD0.self (sz := s.heap.size)
  generalize hAe : va_A [(oc7 oM iM_thrown rM_tape iM_taped iM_size iM_at iM_end iM_token iM_whole iM_nameSize iM_fault iM_place iM_trouble rM_letters iM_failed iM_hasCourt rM_r rM_fresh rM_told rM_read rM_st rM_undone rM_kept iM_undos iM_images rM_fresher iM_fresherSize iM_scale iM_night rM_heardRow rM_cutRow iM_breaths iM_cutMany iM_allBreaths rM_trial rM_words iM_fewestBreaths iM_orderMany iM_orderSum iM_leastOrder rM_often iM_setMany iM_someOf iM_allOf iM_allWeight iM_enoughWeight iM_worthSum iM_firstRest iM_leastDrawn), (arI rM_r kM_r 287 fM_r), (arI rM_told kM_told 90 fM_told), (arI rM_trial kM_trial 90 fM_trial), (arI rM_often kM_often 4 fM_often)] s.heap.size = A at hD hE ⊢
  have hA : ∀ q : Nat, s.heap.size ≤ q → A q := fun q h => by rw [← hAe]; exact Or.inr h
  have hS : va_S A s.heap s.heap [] := va_S.rf
  have hl := lv_entry ([.ref oM, .int p0]) (n := 5) (Nat.le_of_ble_eq_true rfl)
  rw [lg_entry_eq]
  generalize (lg_sl ([.ref oM, .int p0]) ++ List.replicate (5 - (lg_sl ([.ref oM, .int p0])).length) Slot.unset).toArray = ls at hl ⊢
  have hl : lv_has ls 5 [(0, .ref oM), (1, .int p0)] := hl
  have rg_p0 := fb_rng p0
  have s_slips := r_R.slips
  have s_nodes := r_R.nodes
  have s_uns := r_R.uns
  refine lv_iconst (v := (-1)) hx hb dX7_seekSets_0 (by decide) ?_
  refine lv_istore_n (lv' := [(2, .int (-1)), (0, .ref oM), (1, .int p0)]) hx hb dX7_seekSets_1 rfl hl (by decide) rfl (fun ls hl => ?_)
  refine lv_aload_n hx hb dX7_seekSets_2 rfl (lv_at hl 1 rfl) ?_
  refine lv_iconst (v := 0) hx hb dX7_seekSets_3 (by decide) ?_
  refine va_put (D := (dC, dI)) (ci := 7) (v := .int 0) (ty := .int) (C := RX7) (T := TX7) (N := 48) hx hb hts inX7 tyX7 tyX7_ok nmX7 hown hK hP hD hS 0 rfl rfl 40 (by decide) (hts _ wd_1181) (fun _ h9 => h9) rfl (by decide +kernel) rfl rfl (Nat.le_of_ble_eq_true rfl) dX7_seekSets_4 (fun H locs hP hD hS => ?_)
  obtain ⟨hP, hD⟩ := wl2 (ws' := [(oc7 oM iM_thrown rM_tape iM_taped iM_size iM_at iM_end iM_token iM_whole iM_nameSize iM_fault iM_place iM_trouble rM_letters iM_failed iM_hasCourt rM_r rM_fresh rM_told rM_read rM_st rM_undone rM_kept iM_undos iM_images rM_fresher iM_fresherSize iM_scale iM_night rM_heardRow rM_cutRow iM_breaths iM_cutMany iM_allBreaths rM_trial rM_words iM_fewestBreaths iM_orderMany iM_orderSum iM_leastOrder rM_often 0 iM_someOf iM_allOf iM_allWeight iM_enoughWeight iM_worthSum iM_firstRest iM_leastDrawn), (arI rM_r kM_r 287 fM_r), (arI rM_told kM_told 90 fM_told), (arI rM_trial kM_trial 90 fM_trial), (arI rM_often kM_often 4 fM_often)]) hP hD rfl
  refine lv_aload_n hx hb dX7_seekSets_7 rfl (lv_at hl 1 rfl) ?_
  refine lv_iconst (v := 0) hx hb dX7_seekSets_8 (by decide) ?_
  refine va_put (D := (dC, dI)) (ci := 7) (v := .int 0) (ty := .int) (C := RX7) (T := TX7) (N := 48) hx hb hts inX7 tyX7 tyX7_ok nmX7 hown hK hP hD hS 0 rfl rfl 41 (by decide) (hts _ wd_1186) (fun _ h9 => h9) rfl (by decide +kernel) rfl rfl (Nat.le_of_ble_eq_true rfl) dX7_seekSets_9 (fun H locs hP hD hS => ?_)
  obtain ⟨hP, hD⟩ := wl2 (ws' := [(oc7 oM iM_thrown rM_tape iM_taped iM_size iM_at iM_end iM_token iM_whole iM_nameSize iM_fault iM_place iM_trouble rM_letters iM_failed iM_hasCourt rM_r rM_fresh rM_told rM_read rM_st rM_undone rM_kept iM_undos iM_images rM_fresher iM_fresherSize iM_scale iM_night rM_heardRow rM_cutRow iM_breaths iM_cutMany iM_allBreaths rM_trial rM_words iM_fewestBreaths iM_orderMany iM_orderSum iM_leastOrder rM_often 0 0 iM_allOf iM_allWeight iM_enoughWeight iM_worthSum iM_firstRest iM_leastDrawn), (arI rM_r kM_r 287 fM_r), (arI rM_told kM_told 90 fM_told), (arI rM_trial kM_trial 90 fM_trial), (arI rM_often kM_often 4 fM_often)]) hP hD rfl
  refine lv_aload_n hx hb dX7_seekSets_12 rfl (lv_at hl 1 rfl) ?_
  refine lv_iconst (v := 1) hx hb dX7_seekSets_13 (by decide) ?_
  refine lv_aload_n hx hb dX7_seekSets_14 rfl (lv_at hl 1 rfl) ?_
  refine va_get (D := (dC, dI)) (ci := 7) (v := .ref rM_r) (C := RX7) (T := TX7) (N := 48) hx hb hts inX7 hown hK hP 0 rfl rfl 15 (by decide) (hts _ wd_155) (fun _ h9 => h9) rfl dX7_seekSets_15 ?_
  refine lv_iconst (v := 3) hx hb dX7_seekSets_18 (by decide) ?_
  refine va_iald hx hb hK hP 1 0 rfl rfl (by unfold vp_in; decide) dX7_seekSets_19 ?_
  refine lv_topi (fun x_2642 ex_2642 => ?_)
  have rg_x_2642 := fb_rng x_2642
  have cx_2642 : (fM_r 3).toInt = x_2642.toInt := congrArg Int32.toInt (show fM_r 3 = x_2642 from ex_2642.symm)
  have sx_2642 := r_R.uns
  refine lv_ishl hx hb dX7_seekSets_20 ?_
  refine lv_topi (fun x_2643 ex_2643 => ?_)
  have rg_x_2643 := fb_rng x_2643
  have qx_2643 := ti_shl ex_2643 rfl (by omega) (by omega)
  refine lv_iconst (v := 1) hx hb dX7_seekSets_21 (by decide) ?_
  refine lv_isub hx hb dX7_seekSets_22 ?_
  refine lv_topi (fun x_2644 ex_2644 => ?_)
  have vx_2644 : x_2644.toInt = x_2643.toInt + (-1) := by have q := ti_sub ex_2644 rfl kc_1 (by omega) (by omega); omega
  refine va_put (D := (dC, dI)) (ci := 7) (v := .int x_2644) (ty := .int) (C := RX7) (T := TX7) (N := 48) hx hb hts inX7 tyX7 tyX7_ok nmX7 hown hK hP hD hS 0 rfl rfl 42 (by decide) (hts _ wd_1187) (fun _ h9 => h9) rfl (by decide +kernel) rfl rfl (Nat.le_of_ble_eq_true rfl) dX7_seekSets_23 (fun H locs hP hD hS => ?_)
  obtain ⟨hP, hD⟩ := wl2 (ws' := [(oc7 oM iM_thrown rM_tape iM_taped iM_size iM_at iM_end iM_token iM_whole iM_nameSize iM_fault iM_place iM_trouble rM_letters iM_failed iM_hasCourt rM_r rM_fresh rM_told rM_read rM_st rM_undone rM_kept iM_undos iM_images rM_fresher iM_fresherSize iM_scale iM_night rM_heardRow rM_cutRow iM_breaths iM_cutMany iM_allBreaths rM_trial rM_words iM_fewestBreaths iM_orderMany iM_orderSum iM_leastOrder rM_often 0 0 x_2644 iM_allWeight iM_enoughWeight iM_worthSum iM_firstRest iM_leastDrawn), (arI rM_r kM_r 287 fM_r), (arI rM_told kM_told 90 fM_told), (arI rM_trial kM_trial 90 fM_trial), (arI rM_often kM_often 4 fM_often)]) hP hD rfl
  refine lv_iconst (v := 0) hx hb dX7_seekSets_26 (by decide) ?_
  refine lv_istore_n (lv' := [(3, .int 0), (2, .int (-1)), (0, .ref oM), (1, .int p0)]) hx hb dX7_seekSets_27 rfl hl (by decide) rfl (fun ls hl => ?_)
  have hl := lv_sub hl (l' := [(3, .int 0), (2, .int (-1)), (0, .ref oM), (1, .int p0)]) [0, 1, 2, 3] rfl
  have key_n_2647 : ∀ (n_2647 : Nat) (z_2645 : Int32) (f_2646 : Nat → Int32) (H : Heap) (locs : List Loc) (ls : Array Slot), (0 ≤ z_2645.toInt ∧ z_2645.toInt ≤ 2147483647) → (2147483647 - z_2645.toInt).toNat < n_2647 → va_P (dC, dI) vwCl [(oc7 oM iM_thrown rM_tape iM_taped iM_size iM_at iM_end iM_token iM_whole iM_nameSize iM_fault iM_place iM_trouble rM_letters iM_failed iM_hasCourt rM_r rM_fresh rM_told rM_read rM_st rM_undone rM_kept iM_undos iM_images rM_fresher iM_fresherSize iM_scale iM_night rM_heardRow rM_cutRow iM_breaths iM_cutMany iM_allBreaths rM_trial rM_words iM_fewestBreaths iM_orderMany iM_orderSum iM_leastOrder rM_often 0 0 x_2644 iM_allWeight iM_enoughWeight iM_worthSum iM_firstRest iM_leastDrawn), (arI rM_r kM_r 287 fM_r), (arI rM_told kM_told 90 fM_told), (arI rM_trial kM_trial 90 fM_trial), (arI rM_often kM_often 4 f_2646)] H → va_D A [(oc7 oM iM_thrown rM_tape iM_taped iM_size iM_at iM_end iM_token iM_whole iM_nameSize iM_fault iM_place iM_trouble rM_letters iM_failed iM_hasCourt rM_r rM_fresh rM_told rM_read rM_st rM_undone rM_kept iM_undos iM_images rM_fresher iM_fresherSize iM_scale iM_night rM_heardRow rM_cutRow iM_breaths iM_cutMany iM_allBreaths rM_trial rM_words iM_fewestBreaths iM_orderMany iM_orderSum iM_leastOrder rM_often 0 0 x_2644 iM_allWeight iM_enoughWeight iM_worthSum iM_firstRest iM_leastDrawn), (arI rM_r kM_r 287 fM_r), (arI rM_told kM_told 90 fM_told), (arI rM_trial kM_trial 90 fM_trial), (arI rM_often kM_often 4 f_2646)] → va_S A s.heap H locs → lv_has ls 5 [(3, .int z_2645), (2, .int (-1)), (0, .ref oM), (1, .int p0)] → W p l e (headSpec (Cond.code yX7_seekSets cX7_seekSets 5 (some .int) :: wG) ({ frames := 23, cells := 0, slots := 0, locals := 606 })).room s m ([.ref oM, .int p0] : List Value).toArray below meth c H locs 0 0 (MQ below (va_Qi (fun (r : Int32) (_ : Nat) => True ∧ True) (fun (_ : Nat) (t : State) => ∃ (niM_setMany : Int32) (niM_someOf : Int32) (niM_allOf : Int32) (nfM_trial : Nat → Int32) (nfM_often : Nat → Int32), Bw dC dI A [(oc7 oM iM_thrown rM_tape iM_taped iM_size iM_at iM_end iM_token iM_whole iM_nameSize iM_fault iM_place iM_trouble rM_letters iM_failed iM_hasCourt rM_r rM_fresh rM_told rM_read rM_st rM_undone rM_kept iM_undos iM_images rM_fresher iM_fresherSize iM_scale iM_night rM_heardRow rM_cutRow iM_breaths iM_cutMany iM_allBreaths rM_trial rM_words iM_fewestBreaths iM_orderMany iM_orderSum iM_leastOrder rM_often niM_setMany niM_someOf niM_allOf iM_allWeight iM_enoughWeight iM_worthSum iM_firstRest iM_leastDrawn), (arI rM_r kM_r 287 fM_r), (arI rM_told kM_told 90 fM_told), (arI rM_trial kM_trial 90 nfM_trial), (arI rM_often kM_often 4 nfM_often)] [(kM_r, .int), (kM_told, .int), (kM_trial, .int), (kM_often, .int)] t) A) ([.ref oM, .int p0] : List Value).toArray s 0 0 A) (F0 m 28 ls []) := by
    intro n_2647
    induction n_2647 with
    | zero => intro z_2645 f_2646 H locs ls hi0_n_2647 hm; exact absurd hm (Nat.not_lt_zero _)
    | succ n_2647 ih_n_2647 =>
      intro z_2645 f_2646 H locs ls hi0_n_2647 hm_n_2647 hP hD hS hl
      have rg_z_2645 := fb_rng z_2645
      refine lv_iload_n hx hb dX7_seekSets_28 rfl (lv_at hl 0 rfl) ?_
      refine lv_iconst (v := 4) hx hb dX7_seekSets_29 (by decide) ?_
      refine lv_icmp_ge (tgt := 46) hx hb dX7_seekSets_30 (by decide) (fun c_2648 => ?_) (fun c_2648 => ?_)
      · skip
        have gc_2648 := ti_le c_2648 kc_4 rfl
        refine lv_iconst (v := 0) hx hb dX7_seekSets_46 (by decide) ?_
        refine lv_istore_n (lv' := [(3, .int 0), (2, .int (-1)), (0, .ref oM), (1, .int p0)]) hx hb dX7_seekSets_47 rfl hl (by decide) rfl (fun ls hl => ?_)
        have hl := lv_sub hl (l' := [(3, .int 0), (2, .int (-1)), (0, .ref oM), (1, .int p0)]) [0, 1, 2, 3] rfl
        have key_n_2656 : ∀ (n_2656 : Nat) (z_2649 : Int32) (z_2650 : Int32) (z_2651 : Int32) (z_2652 : Int32) (z_2653 : Int32) (f_2654 : Nat → Int32) (f_2655 : Nat → Int32) (H : Heap) (locs : List Loc) (ls : Array Slot), (0 ≤ z_2649.toInt ∧ z_2649.toInt ≤ 2147483647) → (2147483647 - z_2649.toInt).toNat < n_2656 → va_P (dC, dI) vwCl [(oc7 oM iM_thrown rM_tape iM_taped iM_size iM_at iM_end iM_token iM_whole iM_nameSize iM_fault iM_place iM_trouble rM_letters iM_failed iM_hasCourt rM_r rM_fresh rM_told rM_read rM_st rM_undone rM_kept iM_undos iM_images rM_fresher iM_fresherSize iM_scale iM_night rM_heardRow rM_cutRow iM_breaths iM_cutMany iM_allBreaths rM_trial rM_words iM_fewestBreaths iM_orderMany iM_orderSum iM_leastOrder rM_often z_2651 z_2652 z_2653 iM_allWeight iM_enoughWeight iM_worthSum iM_firstRest iM_leastDrawn), (arI rM_r kM_r 287 fM_r), (arI rM_told kM_told 90 fM_told), (arI rM_trial kM_trial 90 f_2654), (arI rM_often kM_often 4 f_2655)] H → va_D A [(oc7 oM iM_thrown rM_tape iM_taped iM_size iM_at iM_end iM_token iM_whole iM_nameSize iM_fault iM_place iM_trouble rM_letters iM_failed iM_hasCourt rM_r rM_fresh rM_told rM_read rM_st rM_undone rM_kept iM_undos iM_images rM_fresher iM_fresherSize iM_scale iM_night rM_heardRow rM_cutRow iM_breaths iM_cutMany iM_allBreaths rM_trial rM_words iM_fewestBreaths iM_orderMany iM_orderSum iM_leastOrder rM_often z_2651 z_2652 z_2653 iM_allWeight iM_enoughWeight iM_worthSum iM_firstRest iM_leastDrawn), (arI rM_r kM_r 287 fM_r), (arI rM_told kM_told 90 fM_told), (arI rM_trial kM_trial 90 f_2654), (arI rM_often kM_often 4 f_2655)] → va_S A s.heap H locs → lv_has ls 5 [(3, .int z_2649), (2, .int z_2650), (0, .ref oM), (1, .int p0)] → W p l e (headSpec (Cond.code yX7_seekSets cX7_seekSets 5 (some .int) :: wG) ({ frames := 23, cells := 0, slots := 0, locals := 606 })).room s m ([.ref oM, .int p0] : List Value).toArray below meth c H locs 0 0 (MQ below (va_Qi (fun (r : Int32) (_ : Nat) => True ∧ True) (fun (_ : Nat) (t : State) => ∃ (niM_setMany : Int32) (niM_someOf : Int32) (niM_allOf : Int32) (nfM_trial : Nat → Int32) (nfM_often : Nat → Int32), Bw dC dI A [(oc7 oM iM_thrown rM_tape iM_taped iM_size iM_at iM_end iM_token iM_whole iM_nameSize iM_fault iM_place iM_trouble rM_letters iM_failed iM_hasCourt rM_r rM_fresh rM_told rM_read rM_st rM_undone rM_kept iM_undos iM_images rM_fresher iM_fresherSize iM_scale iM_night rM_heardRow rM_cutRow iM_breaths iM_cutMany iM_allBreaths rM_trial rM_words iM_fewestBreaths iM_orderMany iM_orderSum iM_leastOrder rM_often niM_setMany niM_someOf niM_allOf iM_allWeight iM_enoughWeight iM_worthSum iM_firstRest iM_leastDrawn), (arI rM_r kM_r 287 fM_r), (arI rM_told kM_told 90 fM_told), (arI rM_trial kM_trial 90 nfM_trial), (arI rM_often kM_often 4 nfM_often)] [(kM_r, .int), (kM_told, .int), (kM_trial, .int), (kM_often, .int)] t) A) ([.ref oM, .int p0] : List Value).toArray s 0 0 A) (F0 m 48 ls []) := by
          intro n_2656
          induction n_2656 with
          | zero => intro z_2649 z_2650 z_2651 z_2652 z_2653 f_2654 f_2655 H locs ls hi0_n_2656 hm; exact absurd hm (Nat.not_lt_zero _)
          | succ n_2656 ih_n_2656 =>
            intro z_2649 z_2650 z_2651 z_2652 z_2653 f_2654 f_2655 H locs ls hi0_n_2656 hm_n_2656 hP hD hS hl
            have rg_z_2649 := fb_rng z_2649
            have rg_z_2650 := fb_rng z_2650
            have rg_z_2651 := fb_rng z_2651
            have rg_z_2652 := fb_rng z_2652
            have rg_z_2653 := fb_rng z_2653
            refine lv_iload_n hx hb dX7_seekSets_48 rfl (lv_at hl 0 rfl) ?_
            refine lv_iconst (v := 1) hx hb dX7_seekSets_49 (by decide) ?_
            refine lv_aload_n hx hb dX7_seekSets_50 rfl (lv_at hl 2 rfl) ?_
            refine va_get (D := (dC, dI)) (ci := 7) (v := .ref rM_r) (C := RX7) (T := TX7) (N := 48) hx hb hts inX7 hown hK hP 0 rfl rfl 15 (by decide) (hts _ wd_155) (fun _ h9 => h9) rfl dX7_seekSets_51 ?_
            refine lv_iconst (v := 3) hx hb dX7_seekSets_54 (by decide) ?_
            refine va_iald hx hb hK hP 1 0 rfl rfl (by unfold vp_in; decide) dX7_seekSets_55 ?_
            refine lv_topi (fun x_2657 ex_2657 => ?_)
            have rg_x_2657 := fb_rng x_2657
            have cx_2657 : (fM_r 3).toInt = x_2657.toInt := congrArg Int32.toInt (show fM_r 3 = x_2657 from ex_2657.symm)
            have sx_2657 := r_R.uns
            refine lv_ishl hx hb dX7_seekSets_56 ?_
            refine lv_topi (fun x_2658 ex_2658 => ?_)
            have rg_x_2658 := fb_rng x_2658
            have qx_2658 := ti_shl ex_2658 rfl (by omega) (by omega)
            refine lv_icmp_ge (tgt := 153) hx hb dX7_seekSets_57 (by decide) (fun c_2659 => ?_) (fun c_2659 => ?_)
            · skip
              have gc_2659 := ti_le c_2659 rfl rfl
              refine lv_aload_n hx hb dX7_seekSets_153 rfl (lv_at hl 2 rfl) ?_
              refine va_get (D := (dC, dI)) (ci := 7) (v := .int z_2651) (C := RX7) (T := TX7) (N := 48) hx hb hts inX7 hown hK hP 0 rfl rfl 40 (by decide) (hts _ wd_1181) (fun _ h9 => h9) rfl dX7_seekSets_154 ?_
              refine lv_if_ne (tgt := 165) hx hb dX7_seekSets_157 (by decide) (fun c_2660 => ?_) (fun c_2660 => ?_)
              · skip
                have gc_2660 := ti_ne c_2660 rfl kc_0
                refine lv_iload_n hx hb dX7_seekSets_165 rfl (lv_at hl 1 rfl) ?_
                exact wq_i hx hb hr 0 ⟨trivial, trivial⟩ (fun t ht hW => ⟨z_2651, z_2652, z_2653, f_2654, f_2655, Bw.to hP hD hK ht hW⟩) hS dX7_seekSets_166 hlocks
              · skip
                have gc_2660 := ti_eq c_2660 rfl kc_0
                refine lv_aload_n hx hb dX7_seekSets_160 rfl (lv_at hl 2 rfl) ?_
                refine lv_iconst (v := 0) hx hb dX7_seekSets_161 (by decide) ?_
                refine va_put (D := (dC, dI)) (ci := 7) (v := .int 0) (ty := .int) (C := RX7) (T := TX7) (N := 48) hx hb hts inX7 tyX7 tyX7_ok nmX7 hown hK hP hD hS 0 rfl rfl 42 (by decide) (hts _ wd_1187) (fun _ h9 => h9) rfl (by decide +kernel) rfl rfl (Nat.le_of_ble_eq_true rfl) dX7_seekSets_162 (fun H locs hP hD hS => ?_)
                obtain ⟨hP, hD⟩ := wl2 (ws' := [(oc7 oM iM_thrown rM_tape iM_taped iM_size iM_at iM_end iM_token iM_whole iM_nameSize iM_fault iM_place iM_trouble rM_letters iM_failed iM_hasCourt rM_r rM_fresh rM_told rM_read rM_st rM_undone rM_kept iM_undos iM_images rM_fresher iM_fresherSize iM_scale iM_night rM_heardRow rM_cutRow iM_breaths iM_cutMany iM_allBreaths rM_trial rM_words iM_fewestBreaths iM_orderMany iM_orderSum iM_leastOrder rM_often z_2651 z_2652 0 iM_allWeight iM_enoughWeight iM_worthSum iM_firstRest iM_leastDrawn), (arI rM_r kM_r 287 fM_r), (arI rM_told kM_told 90 fM_told), (arI rM_trial kM_trial 90 f_2654), (arI rM_often kM_often 4 f_2655)]) hP hD rfl
                refine lv_iload_n hx hb dX7_seekSets_165 rfl (lv_at hl 1 rfl) ?_
                exact wq_i hx hb hr 0 ⟨trivial, trivial⟩ (fun t ht hW => ⟨z_2651, z_2652, 0, f_2654, f_2655, Bw.to hP hD hK ht hW⟩) hS dX7_seekSets_166 hlocks
            · skip
              have gc_2659 := ti_nle c_2659 rfl rfl
              refine lv_aload_n hx hb dX7_seekSets_60 rfl (lv_at hl 2 rfl) ?_
              refine lv_iload_n hx hb dX7_seekSets_61 rfl (lv_at hl 0 rfl) ?_
              have hMs := ml_of hD [true, true, true, true, false] (wc := [(oc7 oM iM_thrown rM_tape iM_taped iM_size iM_at iM_end iM_token iM_whole iM_nameSize iM_fault iM_place iM_trouble rM_letters iM_failed iM_hasCourt rM_r rM_fresh rM_told rM_read rM_st rM_undone rM_kept iM_undos iM_images rM_fresher iM_fresherSize iM_scale iM_night rM_heardRow rM_cutRow iM_breaths iM_cutMany iM_allBreaths rM_trial rM_words iM_fewestBreaths iM_orderMany iM_orderSum iM_leastOrder rM_often z_2651 z_2652 z_2653 iM_allWeight iM_enoughWeight iM_worthSum iM_firstRest iM_leastDrawn), (arI rM_r kM_r 287 fM_r), (arI rM_told kM_told 90 fM_told), (arI rM_trial kM_trial 90 f_2654)]) rfl
              have hFc := va_freeM hD hS hA _ hMs
              refine va_calli (va_runV (As := [.int z_2649]) (rest := []) ⟨hx, hb, hml, hown, hts⟩ (tX7_doesFit l dC dI _ oM iM_thrown rM_tape iM_taped iM_size iM_at iM_end iM_token iM_whole iM_nameSize iM_fault iM_place iM_trouble rM_letters iM_failed iM_hasCourt rM_r fM_r kM_r rM_fresh rM_told fM_told kM_told rM_read rM_st rM_undone rM_kept iM_undos iM_images rM_fresher iM_fresherSize iM_scale iM_night rM_heardRow rM_cutRow iM_breaths iM_cutMany iM_allBreaths rM_trial f_2654 kM_trial rM_words iM_fewestBreaths iM_orderMany iM_orderSum iM_leastOrder rM_often z_2651 z_2652 z_2653 iM_allWeight iM_enoughWeight iM_worthSum iM_firstRest iM_leastDrawn z_2649 b_iM_taped b_iM_size b_iM_end b_iM_failed b_iM_hasCourt b_iM_undos b_iM_images b_iM_scale b_iM_breaths b_iM_cutMany (by assumption) (by assumption) (by assumption) ⟨hth.1, hth.2⟩) (cwV 1 hts (wd_V wd_1188 wd_1189 wd_1190 wd_5 (wd_c wd_1191)) rfl rfl rfl dv_yX7_doesFit_1 ⟨Nat.le_of_ble_eq_true rfl, Nat.le_of_ble_eq_true rfl⟩) ⟨Pw.fb, recvX7 hK hP (q0 := 0) rfl, fun U hU hW => Pw.to (hP.ms _ hMs) (hD.ms _ hMs) (hK.ms [true, true, true, false] rfl) hE hS hFc hU hW⟩ rfl rfl hl.1 rfl (lv_room (Nat.le_of_ble_eq_true rfl)) dX7_seekSets_62 ⟨Nat.le_of_ble_eq_true rfl, Nat.le_of_ble_eq_true rfl⟩) hS (fun q _ h => hFc q h) hFc (fun r u t H locs ht hvm hw hB hz1 hk1 hS => ?_)
              refine ex_1_0 hB (fun f_2661 hB => ?_)
              obtain ⟨hP, hD⟩ := Bw.goN (ws' := [(oc7 oM iM_thrown rM_tape iM_taped iM_size iM_at iM_end iM_token iM_whole iM_nameSize iM_fault iM_place iM_trouble rM_letters iM_failed iM_hasCourt rM_r rM_fresh rM_told rM_read rM_st rM_undone rM_kept iM_undos iM_images rM_fresher iM_fresherSize iM_scale iM_night rM_heardRow rM_cutRow iM_breaths iM_cutMany iM_allBreaths rM_trial rM_words iM_fewestBreaths iM_orderMany iM_orderSum iM_leastOrder rM_often z_2651 z_2652 z_2653 iM_allWeight iM_enoughWeight iM_worthSum iM_firstRest iM_leastDrawn), (arI rM_r kM_r 287 fM_r), (arI rM_told kM_told 90 fM_told), (arI rM_trial kM_trial 90 f_2661), (arI rM_often kM_often 4 f_2655)]) hB rfl ht hP hD _ hMs hk1 hFc rfl
              clear hz1 hk1 hvm ht hB hMs
              obtain ⟨x_2662, rfl⟩ : ∃ z, z = r := ⟨_, rfl⟩
              have rg_x_2662 := fb_rng x_2662
              have bx_2662 := hw.1
              have dx_2662 := bz_tb bx_2662
              refine lv_if_ne (tgt := 71) hx hb dX7_seekSets_65 (by decide) (fun c_2663 => ?_) (fun c_2663 => ?_)
              · skip
                have gc_2663 := ti_ne c_2663 rfl kc_0
                refine lv_aload_n hx hb dX7_seekSets_71 rfl (lv_at hl 2 rfl) ?_
                refine va_get (D := (dC, dI)) (ci := 7) (v := .int z_2651) (C := RX7) (T := TX7) (N := 48) hx hb hts inX7 hown hK hP 0 rfl rfl 40 (by decide) (hts _ wd_1181) (fun _ h9 => h9) rfl dX7_seekSets_72 ?_
                refine lv_iload_n hx hb dX7_seekSets_75 rfl (lv_at hl 3 rfl) ?_
                refine lv_icmp_ne (tgt := 81) hx hb dX7_seekSets_76 (by decide) (fun c_2664 => ?_) (fun c_2664 => ?_)
                · skip
                  have gc_2664 := ti_ne c_2664 rfl rfl
                  refine lv_aload_n hx hb dX7_seekSets_81 rfl (lv_at hl 2 rfl) ?_
                  refine lv_dup hx hb dX7_seekSets_82 rfl ?_
                  refine va_get (D := (dC, dI)) (ci := 7) (v := .int z_2651) (C := RX7) (T := TX7) (N := 48) hx hb hts inX7 hown hK hP 0 rfl rfl 40 (by decide) (hts _ wd_1181) (fun _ h9 => h9) rfl dX7_seekSets_83 ?_
                  refine lv_iconst (v := 1) hx hb dX7_seekSets_86 (by decide) ?_
                  refine lv_iadd hx hb dX7_seekSets_87 ?_
                  refine lv_topi (fun x_2665 ex_2665 => ?_)
                  have rg_x_2665 := fb_rng x_2665
                  refine va_put (D := (dC, dI)) (ci := 7) (v := .int x_2665) (ty := .int) (C := RX7) (T := TX7) (N := 48) hx hb hts inX7 tyX7 tyX7_ok nmX7 hown hK hP hD hS 0 rfl rfl 40 (by decide) (hts _ wd_1181) (fun _ h9 => h9) rfl (by decide +kernel) rfl rfl (Nat.le_of_ble_eq_true rfl) dX7_seekSets_88 (fun H locs hP hD hS => ?_)
                  obtain ⟨hP, hD⟩ := wl2 (ws' := [(oc7 oM iM_thrown rM_tape iM_taped iM_size iM_at iM_end iM_token iM_whole iM_nameSize iM_fault iM_place iM_trouble rM_letters iM_failed iM_hasCourt rM_r rM_fresh rM_told rM_read rM_st rM_undone rM_kept iM_undos iM_images rM_fresher iM_fresherSize iM_scale iM_night rM_heardRow rM_cutRow iM_breaths iM_cutMany iM_allBreaths rM_trial rM_words iM_fewestBreaths iM_orderMany iM_orderSum iM_leastOrder rM_often x_2665 z_2652 z_2653 iM_allWeight iM_enoughWeight iM_worthSum iM_firstRest iM_leastDrawn), (arI rM_r kM_r 287 fM_r), (arI rM_told kM_told 90 fM_told), (arI rM_trial kM_trial 90 f_2661), (arI rM_often kM_often 4 f_2655)]) hP hD rfl
                  refine lv_aload_n hx hb dX7_seekSets_91 rfl (lv_at hl 2 rfl) ?_
                  refine lv_dup hx hb dX7_seekSets_92 rfl ?_
                  refine va_get (D := (dC, dI)) (ci := 7) (v := .int z_2652) (C := RX7) (T := TX7) (N := 48) hx hb hts inX7 hown hK hP 0 rfl rfl 41 (by decide) (hts _ wd_1186) (fun _ h9 => h9) rfl dX7_seekSets_93 ?_
                  refine lv_iload_n hx hb dX7_seekSets_96 rfl (lv_at hl 0 rfl) ?_
                  refine lv_ior hx hb dX7_seekSets_97 ?_
                  refine lv_topi (fun x_2666 ex_2666 => ?_)
                  have rg_x_2666 := fb_rng x_2666
                  refine va_put (D := (dC, dI)) (ci := 7) (v := .int x_2666) (ty := .int) (C := RX7) (T := TX7) (N := 48) hx hb hts inX7 tyX7 tyX7_ok nmX7 hown hK hP hD hS 0 rfl rfl 41 (by decide) (hts _ wd_1186) (fun _ h9 => h9) rfl (by decide +kernel) rfl rfl (Nat.le_of_ble_eq_true rfl) dX7_seekSets_98 (fun H locs hP hD hS => ?_)
                  obtain ⟨hP, hD⟩ := wl2 (ws' := [(oc7 oM iM_thrown rM_tape iM_taped iM_size iM_at iM_end iM_token iM_whole iM_nameSize iM_fault iM_place iM_trouble rM_letters iM_failed iM_hasCourt rM_r rM_fresh rM_told rM_read rM_st rM_undone rM_kept iM_undos iM_images rM_fresher iM_fresherSize iM_scale iM_night rM_heardRow rM_cutRow iM_breaths iM_cutMany iM_allBreaths rM_trial rM_words iM_fewestBreaths iM_orderMany iM_orderSum iM_leastOrder rM_often x_2665 x_2666 z_2653 iM_allWeight iM_enoughWeight iM_worthSum iM_firstRest iM_leastDrawn), (arI rM_r kM_r 287 fM_r), (arI rM_told kM_told 90 fM_told), (arI rM_trial kM_trial 90 f_2661), (arI rM_often kM_often 4 f_2655)]) hP hD rfl
                  refine lv_aload_n hx hb dX7_seekSets_101 rfl (lv_at hl 2 rfl) ?_
                  refine lv_dup hx hb dX7_seekSets_102 rfl ?_
                  refine va_get (D := (dC, dI)) (ci := 7) (v := .int z_2653) (C := RX7) (T := TX7) (N := 48) hx hb hts inX7 hown hK hP 0 rfl rfl 42 (by decide) (hts _ wd_1187) (fun _ h9 => h9) rfl dX7_seekSets_103 ?_
                  refine lv_iload_n hx hb dX7_seekSets_106 rfl (lv_at hl 0 rfl) ?_
                  refine lv_iand hx hb dX7_seekSets_107 ?_
                  refine lv_topi (fun x_2667 ex_2667 => ?_)
                  have rg_x_2667 := fb_rng x_2667
                  refine va_put (D := (dC, dI)) (ci := 7) (v := .int x_2667) (ty := .int) (C := RX7) (T := TX7) (N := 48) hx hb hts inX7 tyX7 tyX7_ok nmX7 hown hK hP hD hS 0 rfl rfl 42 (by decide) (hts _ wd_1187) (fun _ h9 => h9) rfl (by decide +kernel) rfl rfl (Nat.le_of_ble_eq_true rfl) dX7_seekSets_108 (fun H locs hP hD hS => ?_)
                  obtain ⟨hP, hD⟩ := wl2 (ws' := [(oc7 oM iM_thrown rM_tape iM_taped iM_size iM_at iM_end iM_token iM_whole iM_nameSize iM_fault iM_place iM_trouble rM_letters iM_failed iM_hasCourt rM_r rM_fresh rM_told rM_read rM_st rM_undone rM_kept iM_undos iM_images rM_fresher iM_fresherSize iM_scale iM_night rM_heardRow rM_cutRow iM_breaths iM_cutMany iM_allBreaths rM_trial rM_words iM_fewestBreaths iM_orderMany iM_orderSum iM_leastOrder rM_often x_2665 x_2666 x_2667 iM_allWeight iM_enoughWeight iM_worthSum iM_firstRest iM_leastDrawn), (arI rM_r kM_r 287 fM_r), (arI rM_told kM_told 90 fM_told), (arI rM_trial kM_trial 90 f_2661), (arI rM_often kM_often 4 f_2655)]) hP hD rfl
                  refine lv_iconst (v := 0) hx hb dX7_seekSets_111 (by decide) ?_
                  refine lv_istore (lv' := [(4, .int 0), (3, .int z_2649), (2, .int z_2650), (0, .ref oM), (1, .int p0)]) hx hb dX7_seekSets_112 hl (by decide) rfl (fun ls hl => ?_)
                  have hl := lv_sub hl (l' := [(4, .int 0), (3, .int z_2649), (2, .int z_2650), (0, .ref oM), (1, .int p0)]) [0, 1, 2, 3, 4] rfl
                  have key_n_2670 : ∀ (n_2670 : Nat) (z_2668 : Int32) (f_2669 : Nat → Int32) (H : Heap) (locs : List Loc) (ls : Array Slot), (0 ≤ z_2668.toInt ∧ z_2668.toInt ≤ 2147483647) → (2147483647 - z_2668.toInt).toNat < n_2670 → va_P (dC, dI) vwCl [(oc7 oM iM_thrown rM_tape iM_taped iM_size iM_at iM_end iM_token iM_whole iM_nameSize iM_fault iM_place iM_trouble rM_letters iM_failed iM_hasCourt rM_r rM_fresh rM_told rM_read rM_st rM_undone rM_kept iM_undos iM_images rM_fresher iM_fresherSize iM_scale iM_night rM_heardRow rM_cutRow iM_breaths iM_cutMany iM_allBreaths rM_trial rM_words iM_fewestBreaths iM_orderMany iM_orderSum iM_leastOrder rM_often x_2665 x_2666 x_2667 iM_allWeight iM_enoughWeight iM_worthSum iM_firstRest iM_leastDrawn), (arI rM_r kM_r 287 fM_r), (arI rM_told kM_told 90 fM_told), (arI rM_trial kM_trial 90 f_2661), (arI rM_often kM_often 4 f_2669)] H → va_D A [(oc7 oM iM_thrown rM_tape iM_taped iM_size iM_at iM_end iM_token iM_whole iM_nameSize iM_fault iM_place iM_trouble rM_letters iM_failed iM_hasCourt rM_r rM_fresh rM_told rM_read rM_st rM_undone rM_kept iM_undos iM_images rM_fresher iM_fresherSize iM_scale iM_night rM_heardRow rM_cutRow iM_breaths iM_cutMany iM_allBreaths rM_trial rM_words iM_fewestBreaths iM_orderMany iM_orderSum iM_leastOrder rM_often x_2665 x_2666 x_2667 iM_allWeight iM_enoughWeight iM_worthSum iM_firstRest iM_leastDrawn), (arI rM_r kM_r 287 fM_r), (arI rM_told kM_told 90 fM_told), (arI rM_trial kM_trial 90 f_2661), (arI rM_often kM_often 4 f_2669)] → va_S A s.heap H locs → lv_has ls 5 [(4, .int z_2668), (3, .int z_2649), (2, .int z_2650), (0, .ref oM), (1, .int p0)] → W p l e (headSpec (Cond.code yX7_seekSets cX7_seekSets 5 (some .int) :: wG) ({ frames := 23, cells := 0, slots := 0, locals := 606 })).room s m ([.ref oM, .int p0] : List Value).toArray below meth c H locs 0 0 (MQ below (va_Qi (fun (r : Int32) (_ : Nat) => True ∧ True) (fun (_ : Nat) (t : State) => ∃ (niM_setMany : Int32) (niM_someOf : Int32) (niM_allOf : Int32) (nfM_trial : Nat → Int32) (nfM_often : Nat → Int32), Bw dC dI A [(oc7 oM iM_thrown rM_tape iM_taped iM_size iM_at iM_end iM_token iM_whole iM_nameSize iM_fault iM_place iM_trouble rM_letters iM_failed iM_hasCourt rM_r rM_fresh rM_told rM_read rM_st rM_undone rM_kept iM_undos iM_images rM_fresher iM_fresherSize iM_scale iM_night rM_heardRow rM_cutRow iM_breaths iM_cutMany iM_allBreaths rM_trial rM_words iM_fewestBreaths iM_orderMany iM_orderSum iM_leastOrder rM_often niM_setMany niM_someOf niM_allOf iM_allWeight iM_enoughWeight iM_worthSum iM_firstRest iM_leastDrawn), (arI rM_r kM_r 287 fM_r), (arI rM_told kM_told 90 fM_told), (arI rM_trial kM_trial 90 nfM_trial), (arI rM_often kM_often 4 nfM_often)] [(kM_r, .int), (kM_told, .int), (kM_trial, .int), (kM_often, .int)] t) A) ([.ref oM, .int p0] : List Value).toArray s 0 0 A) (F0 m 114 ls []) := by
                    intro n_2670
                    induction n_2670 with
                    | zero => intro z_2668 f_2669 H locs ls hi0_n_2670 hm; exact absurd hm (Nat.not_lt_zero _)
                    | succ n_2670 ih_n_2670 =>
                      intro z_2668 f_2669 H locs ls hi0_n_2670 hm_n_2670 hP hD hS hl
                      have rg_z_2668 := fb_rng z_2668
                      refine lv_iload hx hb dX7_seekSets_114 (lv_at hl 0 rfl) ?_
                      refine lv_aload_n hx hb dX7_seekSets_116 rfl (lv_at hl 3 rfl) ?_
                      refine va_get (D := (dC, dI)) (ci := 7) (v := .ref rM_r) (C := RX7) (T := TX7) (N := 48) hx hb hts inX7 hown hK hP 0 rfl rfl 15 (by decide) (hts _ wd_155) (fun _ h9 => h9) rfl dX7_seekSets_117 ?_
                      refine lv_iconst (v := 3) hx hb dX7_seekSets_120 (by decide) ?_
                      refine va_iald hx hb hK hP 1 0 rfl rfl (by unfold vp_in; decide) dX7_seekSets_121 ?_
                      refine lv_topi (fun x_2671 ex_2671 => ?_)
                      have rg_x_2671 := fb_rng x_2671
                      have cx_2671 : (fM_r 3).toInt = x_2671.toInt := congrArg Int32.toInt (show fM_r 3 = x_2671 from ex_2671.symm)
                      have sx_2671 := r_R.uns
                      refine lv_icmp_ge (tgt := 147) hx hb dX7_seekSets_122 (by decide) (fun c_2672 => ?_) (fun c_2672 => ?_)
                      · skip
                        have gc_2672 := ti_le c_2672 rfl rfl
                        obtain ⟨x_2673, ex_2673⟩ : ∃ z : Int32, z = z_2649 + Int32.ofInt 1 := ⟨_, rfl⟩
                        have vx_2673 : x_2673.toInt = z_2649.toInt + 1 := ti_add (y := 1) ex_2673 rfl kc_1 (om_4e4fce7e hi0_n_2656.1) (om_219cd8d8 rg_x_2658.2 gc_2659)
                        refine lv_iinc (v := x_2673) (lv' := [(3, .int x_2673), (4, .int z_2668), (2, .int z_2650), (0, .ref oM), (1, .int p0)]) hx hb dX7_seekSets_147 hl (k := 1) rfl ex_2673.symm (by decide) rfl (fun ls hl => ?_)
                        refine lv_goto (tgt := 48) hx hb dX7_seekSets_150 (by decide) ?_
                        exact ih_n_2656 x_2673 z_2650 x_2665 x_2666 x_2667 f_2661 f_2669 _ _ _  ⟨(om_83b90de5 hi0_n_2656.1 vx_2673), (om_5c6bfac3 rg_x_2658.2 gc_2659 vx_2673)⟩ (ms_lt hm_n_2656 (om_b9393183 vx_2673) (om_bc4d5040 rg_x_2658.2 gc_2659)) hP hD hS (lv_sub hl [0, 2, 3, 4] rfl)
                      · skip
                        have gc_2672 := ti_nle c_2672 rfl rfl
                        refine lv_aload_n hx hb dX7_seekSets_125 rfl (lv_at hl 3 rfl) ?_
                        refine va_get (D := (dC, dI)) (ci := 7) (v := .ref rM_often) (C := RX7) (T := TX7) (N := 48) hx hb hts inX7 hown hK hP 0 rfl rfl 39 (by decide) (hts _ wd_169) (fun _ h9 => h9) rfl dX7_seekSets_126 ?_
                        refine lv_iload hx hb dX7_seekSets_129 (lv_at hl 0 rfl) ?_
                        refine lv_dup2_11 hx hb dX7_seekSets_131 rfl rfl ?_
                        refine va_iald hx hb hK hP 4 3 rfl rfl (ti_in rfl hi0_n_2670.1 (om_40b90e64 s_uns.2 cx_2671 gc_2672)) dX7_seekSets_132 ?_
                        refine lv_topi (fun x_2674 ex_2674 => ?_)
                        have rg_x_2674 := fb_rng x_2674
                        have kx_2674 : (f_2669 z_2668.toNatClampNeg).toInt = x_2674.toInt := by rw [ex_2674]
                        have cx_2674 := kx_2674
                        refine lv_iload_n hx hb dX7_seekSets_133 rfl (lv_at hl 1 rfl) ?_
                        refine lv_iload hx hb dX7_seekSets_134 (lv_at hl 0 rfl) ?_
                        refine lv_ishr hx hb dX7_seekSets_136 ?_
                        refine lv_topi (fun x_2675 ex_2675 => ?_)
                        have rg_x_2675 := fb_rng x_2675
                        refine lv_iconst (v := 1) hx hb dX7_seekSets_137 (by decide) ?_
                        refine lv_iand hx hb dX7_seekSets_138 ?_
                        refine lv_topi (fun x_2676 ex_2676 => ?_)
                        have rg_x_2676 := fb_rng x_2676
                        refine lv_iadd hx hb dX7_seekSets_139 ?_
                        refine lv_topi (fun x_2677 ex_2677 => ?_)
                        have rg_x_2677 := fb_rng x_2677
                        refine vz_iast hx hb hK hP hD hS 4 3 rfl rfl (ti_in rfl hi0_n_2670.1 (om_40b90e64 s_uns.2 cx_2671 gc_2672)) dX7_seekSets_140 (fun H locs f_2678 hP hD hS => ?_)
                        obtain ⟨hP, hD⟩ := wl2 (ws' := [(oc7 oM iM_thrown rM_tape iM_taped iM_size iM_at iM_end iM_token iM_whole iM_nameSize iM_fault iM_place iM_trouble rM_letters iM_failed iM_hasCourt rM_r rM_fresh rM_told rM_read rM_st rM_undone rM_kept iM_undos iM_images rM_fresher iM_fresherSize iM_scale iM_night rM_heardRow rM_cutRow iM_breaths iM_cutMany iM_allBreaths rM_trial rM_words iM_fewestBreaths iM_orderMany iM_orderSum iM_leastOrder rM_often x_2665 x_2666 x_2667 iM_allWeight iM_enoughWeight iM_worthSum iM_firstRest iM_leastDrawn), (arI rM_r kM_r 287 fM_r), (arI rM_told kM_told 90 fM_told), (arI rM_trial kM_trial 90 f_2661), (arI rM_often kM_often 4 f_2678)]) hP hD rfl
                        obtain ⟨x_2679, ex_2679⟩ : ∃ z : Int32, z = z_2668 + Int32.ofInt 1 := ⟨_, rfl⟩
                        have vx_2679 : x_2679.toInt = z_2668.toInt + 1 := ti_add (y := 1) ex_2679 rfl kc_1 (om_4e4fce7e hi0_n_2670.1) (om_813b24f4 s_uns.2 cx_2671 gc_2672)
                        refine lv_iinc (v := x_2679) (lv' := [(4, .int x_2679), (3, .int z_2649), (2, .int z_2650), (0, .ref oM), (1, .int p0)]) hx hb dX7_seekSets_141 hl (k := 0) rfl ex_2679.symm (by decide) rfl (fun ls hl => ?_)
                        refine lv_goto (tgt := 114) hx hb dX7_seekSets_144 (by decide) ?_
                        exact ih_n_2670 x_2679 f_2678 _ _ _  ⟨(om_83b90de5 hi0_n_2670.1 vx_2679), (om_2aa83bf6 s_uns.2 cx_2671 gc_2672 vx_2679)⟩ (ms_lt hm_n_2670 (om_b9393183 vx_2679) (om_c1023465 s_uns.2 cx_2671 gc_2672)) hP hD hS (lv_sub hl [0, 1, 2, 3, 4] rfl)
                  exact key_n_2670 (((2147483647 - (0 : Int32).toInt).toNat) + 1) 0 f_2655 _ _ _  ⟨(om_b1de7dbe kc_0), (om_daf17c64 kc_0)⟩ (Nat.lt_add_one _) hP hD hS hl
                · skip
                  have gc_2664 := ti_eq c_2664 rfl rfl
                  refine lv_iload_n hx hb dX7_seekSets_79 rfl (lv_at hl 0 rfl) ?_
                  refine lv_istore_n (lv' := [(2, .int z_2649), (3, .int z_2649), (0, .ref oM), (1, .int p0)]) hx hb dX7_seekSets_80 rfl hl (by decide) rfl (fun ls hl => ?_)
                  refine lv_aload_n hx hb dX7_seekSets_81 rfl (lv_at hl 2 rfl) ?_
                  refine lv_dup hx hb dX7_seekSets_82 rfl ?_
                  refine va_get (D := (dC, dI)) (ci := 7) (v := .int z_2651) (C := RX7) (T := TX7) (N := 48) hx hb hts inX7 hown hK hP 0 rfl rfl 40 (by decide) (hts _ wd_1181) (fun _ h9 => h9) rfl dX7_seekSets_83 ?_
                  refine lv_iconst (v := 1) hx hb dX7_seekSets_86 (by decide) ?_
                  refine lv_iadd hx hb dX7_seekSets_87 ?_
                  refine lv_topi (fun x_2680 ex_2680 => ?_)
                  have rg_x_2680 := fb_rng x_2680
                  refine va_put (D := (dC, dI)) (ci := 7) (v := .int x_2680) (ty := .int) (C := RX7) (T := TX7) (N := 48) hx hb hts inX7 tyX7 tyX7_ok nmX7 hown hK hP hD hS 0 rfl rfl 40 (by decide) (hts _ wd_1181) (fun _ h9 => h9) rfl (by decide +kernel) rfl rfl (Nat.le_of_ble_eq_true rfl) dX7_seekSets_88 (fun H locs hP hD hS => ?_)
                  obtain ⟨hP, hD⟩ := wl2 (ws' := [(oc7 oM iM_thrown rM_tape iM_taped iM_size iM_at iM_end iM_token iM_whole iM_nameSize iM_fault iM_place iM_trouble rM_letters iM_failed iM_hasCourt rM_r rM_fresh rM_told rM_read rM_st rM_undone rM_kept iM_undos iM_images rM_fresher iM_fresherSize iM_scale iM_night rM_heardRow rM_cutRow iM_breaths iM_cutMany iM_allBreaths rM_trial rM_words iM_fewestBreaths iM_orderMany iM_orderSum iM_leastOrder rM_often x_2680 z_2652 z_2653 iM_allWeight iM_enoughWeight iM_worthSum iM_firstRest iM_leastDrawn), (arI rM_r kM_r 287 fM_r), (arI rM_told kM_told 90 fM_told), (arI rM_trial kM_trial 90 f_2661), (arI rM_often kM_often 4 f_2655)]) hP hD rfl
                  refine lv_aload_n hx hb dX7_seekSets_91 rfl (lv_at hl 2 rfl) ?_
                  refine lv_dup hx hb dX7_seekSets_92 rfl ?_
                  refine va_get (D := (dC, dI)) (ci := 7) (v := .int z_2652) (C := RX7) (T := TX7) (N := 48) hx hb hts inX7 hown hK hP 0 rfl rfl 41 (by decide) (hts _ wd_1186) (fun _ h9 => h9) rfl dX7_seekSets_93 ?_
                  refine lv_iload_n hx hb dX7_seekSets_96 rfl (lv_at hl 1 rfl) ?_
                  refine lv_ior hx hb dX7_seekSets_97 ?_
                  refine lv_topi (fun x_2681 ex_2681 => ?_)
                  have rg_x_2681 := fb_rng x_2681
                  refine va_put (D := (dC, dI)) (ci := 7) (v := .int x_2681) (ty := .int) (C := RX7) (T := TX7) (N := 48) hx hb hts inX7 tyX7 tyX7_ok nmX7 hown hK hP hD hS 0 rfl rfl 41 (by decide) (hts _ wd_1186) (fun _ h9 => h9) rfl (by decide +kernel) rfl rfl (Nat.le_of_ble_eq_true rfl) dX7_seekSets_98 (fun H locs hP hD hS => ?_)
                  obtain ⟨hP, hD⟩ := wl2 (ws' := [(oc7 oM iM_thrown rM_tape iM_taped iM_size iM_at iM_end iM_token iM_whole iM_nameSize iM_fault iM_place iM_trouble rM_letters iM_failed iM_hasCourt rM_r rM_fresh rM_told rM_read rM_st rM_undone rM_kept iM_undos iM_images rM_fresher iM_fresherSize iM_scale iM_night rM_heardRow rM_cutRow iM_breaths iM_cutMany iM_allBreaths rM_trial rM_words iM_fewestBreaths iM_orderMany iM_orderSum iM_leastOrder rM_often x_2680 x_2681 z_2653 iM_allWeight iM_enoughWeight iM_worthSum iM_firstRest iM_leastDrawn), (arI rM_r kM_r 287 fM_r), (arI rM_told kM_told 90 fM_told), (arI rM_trial kM_trial 90 f_2661), (arI rM_often kM_often 4 f_2655)]) hP hD rfl
                  refine lv_aload_n hx hb dX7_seekSets_101 rfl (lv_at hl 2 rfl) ?_
                  refine lv_dup hx hb dX7_seekSets_102 rfl ?_
                  refine va_get (D := (dC, dI)) (ci := 7) (v := .int z_2653) (C := RX7) (T := TX7) (N := 48) hx hb hts inX7 hown hK hP 0 rfl rfl 42 (by decide) (hts _ wd_1187) (fun _ h9 => h9) rfl dX7_seekSets_103 ?_
                  refine lv_iload_n hx hb dX7_seekSets_106 rfl (lv_at hl 1 rfl) ?_
                  refine lv_iand hx hb dX7_seekSets_107 ?_
                  refine lv_topi (fun x_2682 ex_2682 => ?_)
                  have rg_x_2682 := fb_rng x_2682
                  refine va_put (D := (dC, dI)) (ci := 7) (v := .int x_2682) (ty := .int) (C := RX7) (T := TX7) (N := 48) hx hb hts inX7 tyX7 tyX7_ok nmX7 hown hK hP hD hS 0 rfl rfl 42 (by decide) (hts _ wd_1187) (fun _ h9 => h9) rfl (by decide +kernel) rfl rfl (Nat.le_of_ble_eq_true rfl) dX7_seekSets_108 (fun H locs hP hD hS => ?_)
                  obtain ⟨hP, hD⟩ := wl2 (ws' := [(oc7 oM iM_thrown rM_tape iM_taped iM_size iM_at iM_end iM_token iM_whole iM_nameSize iM_fault iM_place iM_trouble rM_letters iM_failed iM_hasCourt rM_r rM_fresh rM_told rM_read rM_st rM_undone rM_kept iM_undos iM_images rM_fresher iM_fresherSize iM_scale iM_night rM_heardRow rM_cutRow iM_breaths iM_cutMany iM_allBreaths rM_trial rM_words iM_fewestBreaths iM_orderMany iM_orderSum iM_leastOrder rM_often x_2680 x_2681 x_2682 iM_allWeight iM_enoughWeight iM_worthSum iM_firstRest iM_leastDrawn), (arI rM_r kM_r 287 fM_r), (arI rM_told kM_told 90 fM_told), (arI rM_trial kM_trial 90 f_2661), (arI rM_often kM_often 4 f_2655)]) hP hD rfl
                  refine lv_iconst (v := 0) hx hb dX7_seekSets_111 (by decide) ?_
                  refine lv_istore (lv' := [(4, .int 0), (2, .int z_2649), (3, .int z_2649), (0, .ref oM), (1, .int p0)]) hx hb dX7_seekSets_112 hl (by decide) rfl (fun ls hl => ?_)
                  have hl := lv_sub hl (l' := [(4, .int 0), (2, .int z_2649), (3, .int z_2649), (0, .ref oM), (1, .int p0)]) [0, 1, 2, 3, 4] rfl
                  have key_n_2685 : ∀ (n_2685 : Nat) (z_2683 : Int32) (f_2684 : Nat → Int32) (H : Heap) (locs : List Loc) (ls : Array Slot), (0 ≤ z_2683.toInt ∧ z_2683.toInt ≤ 2147483647) → (2147483647 - z_2683.toInt).toNat < n_2685 → va_P (dC, dI) vwCl [(oc7 oM iM_thrown rM_tape iM_taped iM_size iM_at iM_end iM_token iM_whole iM_nameSize iM_fault iM_place iM_trouble rM_letters iM_failed iM_hasCourt rM_r rM_fresh rM_told rM_read rM_st rM_undone rM_kept iM_undos iM_images rM_fresher iM_fresherSize iM_scale iM_night rM_heardRow rM_cutRow iM_breaths iM_cutMany iM_allBreaths rM_trial rM_words iM_fewestBreaths iM_orderMany iM_orderSum iM_leastOrder rM_often x_2680 x_2681 x_2682 iM_allWeight iM_enoughWeight iM_worthSum iM_firstRest iM_leastDrawn), (arI rM_r kM_r 287 fM_r), (arI rM_told kM_told 90 fM_told), (arI rM_trial kM_trial 90 f_2661), (arI rM_often kM_often 4 f_2684)] H → va_D A [(oc7 oM iM_thrown rM_tape iM_taped iM_size iM_at iM_end iM_token iM_whole iM_nameSize iM_fault iM_place iM_trouble rM_letters iM_failed iM_hasCourt rM_r rM_fresh rM_told rM_read rM_st rM_undone rM_kept iM_undos iM_images rM_fresher iM_fresherSize iM_scale iM_night rM_heardRow rM_cutRow iM_breaths iM_cutMany iM_allBreaths rM_trial rM_words iM_fewestBreaths iM_orderMany iM_orderSum iM_leastOrder rM_often x_2680 x_2681 x_2682 iM_allWeight iM_enoughWeight iM_worthSum iM_firstRest iM_leastDrawn), (arI rM_r kM_r 287 fM_r), (arI rM_told kM_told 90 fM_told), (arI rM_trial kM_trial 90 f_2661), (arI rM_often kM_often 4 f_2684)] → va_S A s.heap H locs → lv_has ls 5 [(4, .int z_2683), (2, .int z_2649), (3, .int z_2649), (0, .ref oM), (1, .int p0)] → W p l e (headSpec (Cond.code yX7_seekSets cX7_seekSets 5 (some .int) :: wG) ({ frames := 23, cells := 0, slots := 0, locals := 606 })).room s m ([.ref oM, .int p0] : List Value).toArray below meth c H locs 0 0 (MQ below (va_Qi (fun (r : Int32) (_ : Nat) => True ∧ True) (fun (_ : Nat) (t : State) => ∃ (niM_setMany : Int32) (niM_someOf : Int32) (niM_allOf : Int32) (nfM_trial : Nat → Int32) (nfM_often : Nat → Int32), Bw dC dI A [(oc7 oM iM_thrown rM_tape iM_taped iM_size iM_at iM_end iM_token iM_whole iM_nameSize iM_fault iM_place iM_trouble rM_letters iM_failed iM_hasCourt rM_r rM_fresh rM_told rM_read rM_st rM_undone rM_kept iM_undos iM_images rM_fresher iM_fresherSize iM_scale iM_night rM_heardRow rM_cutRow iM_breaths iM_cutMany iM_allBreaths rM_trial rM_words iM_fewestBreaths iM_orderMany iM_orderSum iM_leastOrder rM_often niM_setMany niM_someOf niM_allOf iM_allWeight iM_enoughWeight iM_worthSum iM_firstRest iM_leastDrawn), (arI rM_r kM_r 287 fM_r), (arI rM_told kM_told 90 fM_told), (arI rM_trial kM_trial 90 nfM_trial), (arI rM_often kM_often 4 nfM_often)] [(kM_r, .int), (kM_told, .int), (kM_trial, .int), (kM_often, .int)] t) A) ([.ref oM, .int p0] : List Value).toArray s 0 0 A) (F0 m 114 ls []) := by
                    intro n_2685
                    induction n_2685 with
                    | zero => intro z_2683 f_2684 H locs ls hi0_n_2685 hm; exact absurd hm (Nat.not_lt_zero _)
                    | succ n_2685 ih_n_2685 =>
                      intro z_2683 f_2684 H locs ls hi0_n_2685 hm_n_2685 hP hD hS hl
                      have rg_z_2683 := fb_rng z_2683
                      refine lv_iload hx hb dX7_seekSets_114 (lv_at hl 0 rfl) ?_
                      refine lv_aload_n hx hb dX7_seekSets_116 rfl (lv_at hl 3 rfl) ?_
                      refine va_get (D := (dC, dI)) (ci := 7) (v := .ref rM_r) (C := RX7) (T := TX7) (N := 48) hx hb hts inX7 hown hK hP 0 rfl rfl 15 (by decide) (hts _ wd_155) (fun _ h9 => h9) rfl dX7_seekSets_117 ?_
                      refine lv_iconst (v := 3) hx hb dX7_seekSets_120 (by decide) ?_
                      refine va_iald hx hb hK hP 1 0 rfl rfl (by unfold vp_in; decide) dX7_seekSets_121 ?_
                      refine lv_topi (fun x_2686 ex_2686 => ?_)
                      have rg_x_2686 := fb_rng x_2686
                      have cx_2686 : (fM_r 3).toInt = x_2686.toInt := congrArg Int32.toInt (show fM_r 3 = x_2686 from ex_2686.symm)
                      have sx_2686 := r_R.uns
                      refine lv_icmp_ge (tgt := 147) hx hb dX7_seekSets_122 (by decide) (fun c_2687 => ?_) (fun c_2687 => ?_)
                      · skip
                        have gc_2687 := ti_le c_2687 rfl rfl
                        obtain ⟨x_2688, ex_2688⟩ : ∃ z : Int32, z = z_2649 + Int32.ofInt 1 := ⟨_, rfl⟩
                        have vx_2688 : x_2688.toInt = z_2649.toInt + 1 := ti_add (y := 1) ex_2688 rfl kc_1 (om_4e4fce7e hi0_n_2656.1) (om_219cd8d8 rg_x_2658.2 gc_2659)
                        refine lv_iinc (v := x_2688) (lv' := [(3, .int x_2688), (4, .int z_2683), (2, .int z_2649), (0, .ref oM), (1, .int p0)]) hx hb dX7_seekSets_147 hl (k := 2) rfl ex_2688.symm (by decide) rfl (fun ls hl => ?_)
                        refine lv_goto (tgt := 48) hx hb dX7_seekSets_150 (by decide) ?_
                        exact ih_n_2656 x_2688 z_2649 x_2680 x_2681 x_2682 f_2661 f_2684 _ _ _  ⟨(om_83b90de5 hi0_n_2656.1 vx_2688), (om_5c6bfac3 rg_x_2658.2 gc_2659 vx_2688)⟩ (ms_lt hm_n_2656 (om_b9393183 vx_2688) (om_bc4d5040 rg_x_2658.2 gc_2659)) hP hD hS (lv_sub hl [0, 2, 3, 4] rfl)
                      · skip
                        have gc_2687 := ti_nle c_2687 rfl rfl
                        refine lv_aload_n hx hb dX7_seekSets_125 rfl (lv_at hl 3 rfl) ?_
                        refine va_get (D := (dC, dI)) (ci := 7) (v := .ref rM_often) (C := RX7) (T := TX7) (N := 48) hx hb hts inX7 hown hK hP 0 rfl rfl 39 (by decide) (hts _ wd_169) (fun _ h9 => h9) rfl dX7_seekSets_126 ?_
                        refine lv_iload hx hb dX7_seekSets_129 (lv_at hl 0 rfl) ?_
                        refine lv_dup2_11 hx hb dX7_seekSets_131 rfl rfl ?_
                        refine va_iald hx hb hK hP 4 3 rfl rfl (ti_in rfl hi0_n_2685.1 (om_40b90e64 s_uns.2 cx_2686 gc_2687)) dX7_seekSets_132 ?_
                        refine lv_topi (fun x_2689 ex_2689 => ?_)
                        have rg_x_2689 := fb_rng x_2689
                        have kx_2689 : (f_2684 z_2683.toNatClampNeg).toInt = x_2689.toInt := by rw [ex_2689]
                        have cx_2689 := kx_2689
                        refine lv_iload_n hx hb dX7_seekSets_133 rfl (lv_at hl 2 rfl) ?_
                        refine lv_iload hx hb dX7_seekSets_134 (lv_at hl 0 rfl) ?_
                        refine lv_ishr hx hb dX7_seekSets_136 ?_
                        refine lv_topi (fun x_2690 ex_2690 => ?_)
                        have rg_x_2690 := fb_rng x_2690
                        refine lv_iconst (v := 1) hx hb dX7_seekSets_137 (by decide) ?_
                        refine lv_iand hx hb dX7_seekSets_138 ?_
                        refine lv_topi (fun x_2691 ex_2691 => ?_)
                        have rg_x_2691 := fb_rng x_2691
                        refine lv_iadd hx hb dX7_seekSets_139 ?_
                        refine lv_topi (fun x_2692 ex_2692 => ?_)
                        have rg_x_2692 := fb_rng x_2692
                        refine vz_iast hx hb hK hP hD hS 4 3 rfl rfl (ti_in rfl hi0_n_2685.1 (om_40b90e64 s_uns.2 cx_2686 gc_2687)) dX7_seekSets_140 (fun H locs f_2693 hP hD hS => ?_)
                        obtain ⟨hP, hD⟩ := wl2 (ws' := [(oc7 oM iM_thrown rM_tape iM_taped iM_size iM_at iM_end iM_token iM_whole iM_nameSize iM_fault iM_place iM_trouble rM_letters iM_failed iM_hasCourt rM_r rM_fresh rM_told rM_read rM_st rM_undone rM_kept iM_undos iM_images rM_fresher iM_fresherSize iM_scale iM_night rM_heardRow rM_cutRow iM_breaths iM_cutMany iM_allBreaths rM_trial rM_words iM_fewestBreaths iM_orderMany iM_orderSum iM_leastOrder rM_often x_2680 x_2681 x_2682 iM_allWeight iM_enoughWeight iM_worthSum iM_firstRest iM_leastDrawn), (arI rM_r kM_r 287 fM_r), (arI rM_told kM_told 90 fM_told), (arI rM_trial kM_trial 90 f_2661), (arI rM_often kM_often 4 f_2693)]) hP hD rfl
                        obtain ⟨x_2694, ex_2694⟩ : ∃ z : Int32, z = z_2683 + Int32.ofInt 1 := ⟨_, rfl⟩
                        have vx_2694 : x_2694.toInt = z_2683.toInt + 1 := ti_add (y := 1) ex_2694 rfl kc_1 (om_4e4fce7e hi0_n_2685.1) (om_813b24f4 s_uns.2 cx_2686 gc_2687)
                        refine lv_iinc (v := x_2694) (lv' := [(4, .int x_2694), (2, .int z_2649), (3, .int z_2649), (0, .ref oM), (1, .int p0)]) hx hb dX7_seekSets_141 hl (k := 0) rfl ex_2694.symm (by decide) rfl (fun ls hl => ?_)
                        refine lv_goto (tgt := 114) hx hb dX7_seekSets_144 (by decide) ?_
                        exact ih_n_2685 x_2694 f_2693 _ _ _  ⟨(om_83b90de5 hi0_n_2685.1 vx_2694), (om_2aa83bf6 s_uns.2 cx_2686 gc_2687 vx_2694)⟩ (ms_lt hm_n_2685 (om_b9393183 vx_2694) (om_c1023465 s_uns.2 cx_2686 gc_2687)) hP hD hS (lv_sub hl [0, 1, 2, 3, 4] rfl)
                  exact key_n_2685 (((2147483647 - (0 : Int32).toInt).toNat) + 1) 0 f_2655 _ _ _  ⟨(om_b1de7dbe kc_0), (om_daf17c64 kc_0)⟩ (Nat.lt_add_one _) hP hD hS hl
              · skip
                have gc_2663 := ti_eq c_2663 rfl kc_0
                refine lv_goto (tgt := 147) hx hb dX7_seekSets_68 (by decide) ?_
                obtain ⟨x_2695, ex_2695⟩ : ∃ z : Int32, z = z_2649 + Int32.ofInt 1 := ⟨_, rfl⟩
                have vx_2695 : x_2695.toInt = z_2649.toInt + 1 := ti_add (y := 1) ex_2695 rfl kc_1 (om_4e4fce7e hi0_n_2656.1) (om_219cd8d8 rg_x_2658.2 gc_2659)
                refine lv_iinc (v := x_2695) (lv' := [(3, .int x_2695), (2, .int z_2650), (0, .ref oM), (1, .int p0)]) hx hb dX7_seekSets_147 hl (k := 0) rfl ex_2695.symm (by decide) rfl (fun ls hl => ?_)
                refine lv_goto (tgt := 48) hx hb dX7_seekSets_150 (by decide) ?_
                exact ih_n_2656 x_2695 z_2650 z_2651 z_2652 z_2653 f_2661 f_2655 _ _ _  ⟨(om_83b90de5 hi0_n_2656.1 vx_2695), (om_5c6bfac3 rg_x_2658.2 gc_2659 vx_2695)⟩ (ms_lt hm_n_2656 (om_b9393183 vx_2695) (om_bc4d5040 rg_x_2658.2 gc_2659)) hP hD hS (lv_sub hl [0, 1, 2, 3] rfl)
        exact key_n_2656 (((2147483647 - (0 : Int32).toInt).toNat) + 1) 0 (-1) 0 0 x_2644 fM_trial f_2646 _ _ _  ⟨(om_b1de7dbe kc_0), (om_daf17c64 kc_0)⟩ (Nat.lt_add_one _) hP hD hS hl
      · skip
        have gc_2648 := ti_nle c_2648 kc_4 rfl
        refine lv_aload_n hx hb dX7_seekSets_33 rfl (lv_at hl 2 rfl) ?_
        refine va_get (D := (dC, dI)) (ci := 7) (v := .ref rM_often) (C := RX7) (T := TX7) (N := 48) hx hb hts inX7 hown hK hP 0 rfl rfl 39 (by decide) (hts _ wd_169) (fun _ h9 => h9) rfl dX7_seekSets_34 ?_
        refine lv_iload_n hx hb dX7_seekSets_37 rfl (lv_at hl 0 rfl) ?_
        refine lv_iconst (v := 0) hx hb dX7_seekSets_38 (by decide) ?_
        refine vz_iast hx hb hK hP hD hS 4 3 rfl rfl (ti_in rfl hi0_n_2647.1 (om_289cd1d9 gc_2648)) dX7_seekSets_39 (fun H locs f_2696 hP hD hS => ?_)
        obtain ⟨hP, hD⟩ := wl2 (ws' := [(oc7 oM iM_thrown rM_tape iM_taped iM_size iM_at iM_end iM_token iM_whole iM_nameSize iM_fault iM_place iM_trouble rM_letters iM_failed iM_hasCourt rM_r rM_fresh rM_told rM_read rM_st rM_undone rM_kept iM_undos iM_images rM_fresher iM_fresherSize iM_scale iM_night rM_heardRow rM_cutRow iM_breaths iM_cutMany iM_allBreaths rM_trial rM_words iM_fewestBreaths iM_orderMany iM_orderSum iM_leastOrder rM_often 0 0 x_2644 iM_allWeight iM_enoughWeight iM_worthSum iM_firstRest iM_leastDrawn), (arI rM_r kM_r 287 fM_r), (arI rM_told kM_told 90 fM_told), (arI rM_trial kM_trial 90 fM_trial), (arI rM_often kM_often 4 f_2696)]) hP hD rfl
        obtain ⟨x_2697, ex_2697⟩ : ∃ z : Int32, z = z_2645 + Int32.ofInt 1 := ⟨_, rfl⟩
        have vx_2697 : x_2697.toInt = z_2645.toInt + 1 := ti_add (y := 1) ex_2697 rfl kc_1 (om_4e4fce7e hi0_n_2647.1) (om_71ed274a gc_2648)
        refine lv_iinc (v := x_2697) (lv' := [(3, .int x_2697), (2, .int (-1)), (0, .ref oM), (1, .int p0)]) hx hb dX7_seekSets_40 hl (k := 0) rfl ex_2697.symm (by decide) rfl (fun ls hl => ?_)
        refine lv_goto (tgt := 28) hx hb dX7_seekSets_43 (by decide) ?_
        exact ih_n_2647 x_2697 f_2696 _ _ _  ⟨(om_83b90de5 hi0_n_2647.1 vx_2697), (om_d99ff3f9 gc_2648 vx_2697)⟩ (ms_lt hm_n_2647 (om_b9393183 vx_2697) (om_50af1673 gc_2648)) hP hD hS (lv_sub hl [0, 1, 2, 3] rfl)
  exact key_n_2647 (((2147483647 - (0 : Int32).toInt).toNat) + 1) 0 fM_often _ _ _  ⟨(om_b1de7dbe kc_0), (om_daf17c64 kc_0)⟩ (Nat.lt_add_one _) hP hD hS hl
set_option maxHeartbeats 4000000 in
set_option maxRecDepth 100000 in
theorem tX7_leavesOf (l : Launch) (dC : Nat → ClassId) (dI : Nat → Nat → Nat) (sz : Nat) (oM : Nat) (iM_thrown : Int32) (rM_tape : Nat) (iM_taped : Int32) (iM_size : Int32) (iM_at : Int32) (iM_end : Int32) (iM_token : Int32) (iM_whole : Int32) (iM_nameSize : Int32) (iM_fault : Int32) (iM_place : Int32) (iM_trouble : Int32) (rM_letters : Nat) (iM_failed : Int32) (iM_hasCourt : Int32) (rM_r : Nat) (rM_fresh : Nat) (rM_told : Nat) (rM_read : Nat) (rM_st : Nat) (rM_undone : Nat) (rM_kept : Nat) (iM_undos : Int32) (iM_images : Int32) (rM_fresher : Nat) (iM_fresherSize : Int32) (iM_scale : Int32) (iM_night : Int32) (rM_heardRow : Nat) (rM_cutRow : Nat) (iM_breaths : Int32) (iM_cutMany : Int32) (iM_allBreaths : Int32) (rM_trial : Nat) (rM_words : Nat) (iM_fewestBreaths : Int32) (iM_orderMany : Int32) (iM_orderSum : Int32) (iM_leastOrder : Int32) (rM_often : Nat) (fM_often : Nat → Int32) (kM_often : ClassId) (iM_setMany : Int32) (iM_someOf : Int32) (iM_allOf : Int32) (iM_allWeight : Int64) (iM_enoughWeight : Int64) (iM_worthSum : Int64) (iM_firstRest : Int32) (iM_leastDrawn : Int32) (p0 : Int32) (b_iM_taped : 0 ≤ iM_taped.toInt ∧ iM_taped.toInt ≤ 900) (b_iM_size : 0 ≤ iM_size.toInt ∧ iM_size.toInt ≤ 900) (b_iM_end : 0 ≤ iM_end.toInt ∧ iM_end.toInt ≤ 900) (b_iM_failed : 0 ≤ iM_failed.toInt ∧ iM_failed.toInt ≤ 1) (b_iM_hasCourt : 0 ≤ iM_hasCourt.toInt ∧ iM_hasCourt.toInt ≤ 1) (b_iM_undos : 0 ≤ iM_undos.toInt ∧ iM_undos.toInt ≤ 16) (b_iM_images : 0 ≤ iM_images.toInt ∧ iM_images.toInt ≤ 3) (b_iM_scale : 1 ≤ iM_scale.toInt ∧ iM_scale.toInt ≤ 1296) (b_iM_breaths : 0 ≤ iM_breaths.toInt ∧ iM_breaths.toInt ≤ 399) (b_iM_cutMany : 0 ≤ iM_cutMany.toInt ∧ iM_cutMany.toInt ≤ 399) (hp0 : 0 ≤ p0.toInt ∧ p0.toInt ≤ 3) : Met l yX7_leavesOf (Cond.code yX7_leavesOf cX7_leavesOf 2 (some .int) :: wG) ({ frames := 0, cells := 0, slots := 0, locals := 0 }) (va_Pc [.ref oM, .int p0] (Pw dC dI sz [(oc7 oM iM_thrown rM_tape iM_taped iM_size iM_at iM_end iM_token iM_whole iM_nameSize iM_fault iM_place iM_trouble rM_letters iM_failed iM_hasCourt rM_r rM_fresh rM_told rM_read rM_st rM_undone rM_kept iM_undos iM_images rM_fresher iM_fresherSize iM_scale iM_night rM_heardRow rM_cutRow iM_breaths iM_cutMany iM_allBreaths rM_trial rM_words iM_fewestBreaths iM_orderMany iM_orderSum iM_leastOrder rM_often iM_setMany iM_someOf iM_allOf iM_allWeight iM_enoughWeight iM_worthSum iM_firstRest iM_leastDrawn), (arI rM_often kM_often 4 fM_often)] [(kM_often, .int)])) (va_Qi (fun (r : Int32) (_ : Nat) => True ∧ True) (fun (_ : Nat) (t : State) => Bw dC dI (va_A [(oc7 oM iM_thrown rM_tape iM_taped iM_size iM_at iM_end iM_token iM_whole iM_nameSize iM_fault iM_place iM_trouble rM_letters iM_failed iM_hasCourt rM_r rM_fresh rM_told rM_read rM_st rM_undone rM_kept iM_undos iM_images rM_fresher iM_fresherSize iM_scale iM_night rM_heardRow rM_cutRow iM_breaths iM_cutMany iM_allBreaths rM_trial rM_words iM_fewestBreaths iM_orderMany iM_orderSum iM_leastOrder rM_often iM_setMany iM_someOf iM_allOf iM_allWeight iM_enoughWeight iM_worthSum iM_firstRest iM_leastDrawn), (arI rM_often kM_often 4 fM_often)] sz) [(oc7 oM iM_thrown rM_tape iM_taped iM_size iM_at iM_end iM_token iM_whole iM_nameSize iM_fault iM_place iM_trouble rM_letters iM_failed iM_hasCourt rM_r rM_fresh rM_told rM_read rM_st rM_undone rM_kept iM_undos iM_images rM_fresher iM_fresherSize iM_scale iM_night rM_heardRow rM_cutRow iM_breaths iM_cutMany iM_allBreaths rM_trial rM_words iM_fewestBreaths iM_orderMany iM_orderSum iM_leastOrder rM_often iM_setMany iM_someOf iM_allOf iM_allWeight iM_enoughWeight iM_worthSum iM_firstRest iM_leastDrawn), (arI rM_often kM_often 4 fM_often)] [(kM_often, .int)] t) (va_A [(oc7 oM iM_thrown rM_tape iM_taped iM_size iM_at iM_end iM_token iM_whole iM_nameSize iM_fault iM_place iM_trouble rM_letters iM_failed iM_hasCourt rM_r rM_fresh rM_told rM_read rM_st rM_undone rM_kept iM_undos iM_images rM_fresher iM_fresherSize iM_scale iM_night rM_heardRow rM_cutRow iM_breaths iM_cutMany iM_allBreaths rM_trial rM_words iM_fewestBreaths iM_orderMany iM_orderSum iM_leastOrder rM_often iM_setMany iM_someOf iM_allOf iM_allWeight iM_enoughWeight iM_worthSum iM_firstRest iM_leastDrawn), (arI rM_often kM_often 4 fM_often)] sz)) 0 0 (va_A [(oc7 oM iM_thrown rM_tape iM_taped iM_size iM_at iM_end iM_token iM_whole iM_nameSize iM_fault iM_place iM_trouble rM_letters iM_failed iM_hasCourt rM_r rM_fresh rM_told rM_read rM_st rM_undone rM_kept iM_undos iM_images rM_fresher iM_fresherSize iM_scale iM_night rM_heardRow rM_cutRow iM_breaths iM_cutMany iM_allBreaths rM_trial rM_words iM_fewestBreaths iM_orderMany iM_orderSum iM_leastOrder rM_often iM_setMany iM_someOf iM_allOf iM_allWeight iM_enoughWeight iM_worthSum iM_firstRest iM_leastDrawn), (arI rM_often kM_often 4 fM_often)] sz) := by
  refine Met.ofW (cc := cX7_leavesOf) (maxL := 2) (ret := (some .int)) pnX7 rfl ?_
  intro p e s m args below meth c s₁ B hml hv
  obtain ⟨rfl, hsz, hP, hK, hD0, hE⟩ := hv
  have hx := B.exec
  have hb := B.bytes
  have hr := B.returns
  have hts : ∀ w ∈ wG, w.before ([.ref oM, .int p0] : List Value).toArray s = true := fun w h => atoms_spec (ws := Cond.code yX7_leavesOf cX7_leavesOf 2 (some .int) :: wG) B.pre w (List.mem_cons_of_mem _ h)
  have hown : s.vm.findClass RX7 = some m.cls := own_of B.named rfl
  have hlocks := B.notSynchronized
  subst hsz
  have hD := hD0.self (sz := s.heap.size)
  generalize hAe : va_A [(oc7 oM iM_thrown rM_tape iM_taped iM_size iM_at iM_end iM_token iM_whole iM_nameSize iM_fault iM_place iM_trouble rM_letters iM_failed iM_hasCourt rM_r rM_fresh rM_told rM_read rM_st rM_undone rM_kept iM_undos iM_images rM_fresher iM_fresherSize iM_scale iM_night rM_heardRow rM_cutRow iM_breaths iM_cutMany iM_allBreaths rM_trial rM_words iM_fewestBreaths iM_orderMany iM_orderSum iM_leastOrder rM_often iM_setMany iM_someOf iM_allOf iM_allWeight iM_enoughWeight iM_worthSum iM_firstRest iM_leastDrawn), (arI rM_often kM_often 4 fM_often)] s.heap.size = A at hD hE ⊢
  have hA : ∀ q : Nat, s.heap.size ≤ q → A q := fun q h => by rw [← hAe]; exact Or.inr h
  have hS : va_S A s.heap s.heap [] := va_S.rf
  have hl := lv_entry ([.ref oM, .int p0]) (n := 2) (Nat.le_of_ble_eq_true rfl)
  rw [lg_entry_eq]
  generalize (lg_sl ([.ref oM, .int p0]) ++ List.replicate (2 - (lg_sl ([.ref oM, .int p0])).length) Slot.unset).toArray = ls at hl ⊢
  have hl : lv_has ls 2 [(0, .ref oM), (1, .int p0)] := hl
  refine lv_aload_n hx hb dX7_leavesOf_0 rfl (lv_at hl 0 rfl) ?_
  refine va_get (D := (dC, dI)) (ci := 7) (v := .ref rM_often) (C := RX7) (T := TX7) (N := 48) hx hb hts inX7 hown hK hP 0 rfl rfl 39 (by decide) (hts _ wd_169) (fun _ h9 => h9) rfl dX7_leavesOf_1 ?_
  refine lv_iload_n hx hb dX7_leavesOf_4 rfl (lv_at hl 1 rfl) ?_
  refine va_iald hx hb hK hP 1 0 rfl rfl (ti_in rfl hp0.1 (om_27df6bf1 hp0.2)) dX7_leavesOf_5 ?_
  refine lv_topi (fun x_2705 ex_2705 => ?_)
  have kx_2705 : (fM_often p0.toNatClampNeg).toInt = x_2705.toInt := by rw [ex_2705]
  have cx_2705 := kx_2705
  refine lv_aload_n hx hb dX7_leavesOf_6 rfl (lv_at hl 0 rfl) ?_
  refine va_get (D := (dC, dI)) (ci := 7) (v := .int iM_setMany) (C := RX7) (T := TX7) (N := 48) hx hb hts inX7 hown hK hP 0 rfl rfl 40 (by decide) (hts _ wd_1181) (fun _ h9 => h9) rfl dX7_leavesOf_7 ?_
  refine lv_aload_n hx hb dX7_leavesOf_10 rfl (lv_at hl 0 rfl) ?_
  refine va_get (D := (dC, dI)) (ci := 7) (v := .ref rM_often) (C := RX7) (T := TX7) (N := 48) hx hb hts inX7 hown hK hP 0 rfl rfl 39 (by decide) (hts _ wd_169) (fun _ h9 => h9) rfl dX7_leavesOf_11 ?_
  refine lv_iload_n hx hb dX7_leavesOf_14 rfl (lv_at hl 1 rfl) ?_
  refine va_iald hx hb hK hP 1 0 rfl rfl (ti_in rfl hp0.1 (om_27df6bf1 hp0.2)) dX7_leavesOf_15 ?_
  refine lv_topi (fun x_2706 ex_2706 => ?_)
  have kx_2706 : (fM_often p0.toNatClampNeg).toInt = x_2706.toInt := by rw [ex_2706]
  have cx_2706 := kx_2706
  refine lv_isub hx hb dX7_leavesOf_16 ?_
  refine lv_topi (fun x_2707 ex_2707 => ?_)
  refine lv_icmp_le (tgt := 29) hx hb dX7_leavesOf_17 (by decide) (fun c_2708 => ?_) (fun c_2708 => ?_)
  · skip
    have gc_2708 := ti_le c_2708 rfl rfl
    refine lv_aload_n hx hb dX7_leavesOf_29 rfl (lv_at hl 0 rfl) ?_
    refine va_get (D := (dC, dI)) (ci := 7) (v := .int iM_setMany) (C := RX7) (T := TX7) (N := 48) hx hb hts inX7 hown hK hP 0 rfl rfl 40 (by decide) (hts _ wd_1181) (fun _ h9 => h9) rfl dX7_leavesOf_30 ?_
    refine lv_aload_n hx hb dX7_leavesOf_33 rfl (lv_at hl 0 rfl) ?_
    refine va_get (D := (dC, dI)) (ci := 7) (v := .ref rM_often) (C := RX7) (T := TX7) (N := 48) hx hb hts inX7 hown hK hP 0 rfl rfl 39 (by decide) (hts _ wd_169) (fun _ h9 => h9) rfl dX7_leavesOf_34 ?_
    refine lv_iload_n hx hb dX7_leavesOf_37 rfl (lv_at hl 1 rfl) ?_
    refine va_iald hx hb hK hP 1 0 rfl rfl (ti_in rfl hp0.1 (om_27df6bf1 hp0.2)) dX7_leavesOf_38 ?_
    refine lv_topi (fun x_2709 ex_2709 => ?_)
    have kx_2709 : (fM_often p0.toNatClampNeg).toInt = x_2709.toInt := by rw [ex_2709]
    have cx_2709 := kx_2709
    refine lv_isub hx hb dX7_leavesOf_39 ?_
    refine lv_topi (fun x_2710 ex_2710 => ?_)
    exact wq_i hx hb hr 0 ⟨trivial, trivial⟩ (fun t ht hW => Bw.to hP hD hK ht hW) hS dX7_leavesOf_40 hlocks
  · skip
    have gc_2708 := ti_nle c_2708 rfl rfl
    refine lv_aload_n hx hb dX7_leavesOf_20 rfl (lv_at hl 0 rfl) ?_
    refine va_get (D := (dC, dI)) (ci := 7) (v := .ref rM_often) (C := RX7) (T := TX7) (N := 48) hx hb hts inX7 hown hK hP 0 rfl rfl 39 (by decide) (hts _ wd_169) (fun _ h9 => h9) rfl dX7_leavesOf_21 ?_
    refine lv_iload_n hx hb dX7_leavesOf_24 rfl (lv_at hl 1 rfl) ?_
    refine va_iald hx hb hK hP 1 0 rfl rfl (ti_in rfl hp0.1 (om_27df6bf1 hp0.2)) dX7_leavesOf_25 ?_
    refine lv_topi (fun x_2711 ex_2711 => ?_)
    have kx_2711 : (fM_often p0.toNatClampNeg).toInt = x_2711.toInt := by rw [ex_2711]
    have cx_2711 := kx_2711
    refine lv_goto (tgt := 40) hx hb dX7_leavesOf_26 (by decide) ?_
    exact wq_i hx hb hr 0 ⟨trivial, trivial⟩ (fun t ht hW => Bw.to hP hD hK ht hW) hS dX7_leavesOf_40 hlocks
set_option maxHeartbeats 4000000 in
set_option maxRecDepth 100000 in
theorem tX7_askedFirst (l : Launch) (dC : Nat → ClassId) (dI : Nat → Nat → Nat) (sz : Nat) (oM : Nat) (iM_thrown : Int32) (rM_tape : Nat) (iM_taped : Int32) (iM_size : Int32) (iM_at : Int32) (iM_end : Int32) (iM_token : Int32) (iM_whole : Int32) (iM_nameSize : Int32) (iM_fault : Int32) (iM_place : Int32) (iM_trouble : Int32) (rM_letters : Nat) (iM_failed : Int32) (iM_hasCourt : Int32) (rM_r : Nat) (fM_r : Nat → Int32) (kM_r : ClassId) (rM_fresh : Nat) (rM_told : Nat) (fM_told : Nat → Int32) (kM_told : ClassId) (rM_read : Nat) (rM_st : Nat) (rM_undone : Nat) (rM_kept : Nat) (iM_undos : Int32) (iM_images : Int32) (rM_fresher : Nat) (iM_fresherSize : Int32) (iM_scale : Int32) (iM_night : Int32) (rM_heardRow : Nat) (rM_cutRow : Nat) (iM_breaths : Int32) (iM_cutMany : Int32) (iM_allBreaths : Int32) (rM_trial : Nat) (fM_trial : Nat → Int32) (kM_trial : ClassId) (rM_words : Nat) (iM_fewestBreaths : Int32) (iM_orderMany : Int32) (iM_orderSum : Int32) (iM_leastOrder : Int32) (rM_often : Nat) (fM_often : Nat → Int32) (kM_often : ClassId) (iM_setMany : Int32) (iM_someOf : Int32) (iM_allOf : Int32) (iM_allWeight : Int64) (iM_enoughWeight : Int64) (iM_worthSum : Int64) (iM_firstRest : Int32) (iM_leastDrawn : Int32) (b_iM_taped : 0 ≤ iM_taped.toInt ∧ iM_taped.toInt ≤ 900) (b_iM_size : 0 ≤ iM_size.toInt ∧ iM_size.toInt ≤ 900) (b_iM_end : 0 ≤ iM_end.toInt ∧ iM_end.toInt ≤ 900) (b_iM_failed : 0 ≤ iM_failed.toInt ∧ iM_failed.toInt ≤ 1) (b_iM_hasCourt : 0 ≤ iM_hasCourt.toInt ∧ iM_hasCourt.toInt ≤ 1) (b_iM_undos : 0 ≤ iM_undos.toInt ∧ iM_undos.toInt ≤ 16) (b_iM_images : 0 ≤ iM_images.toInt ∧ iM_images.toInt ≤ 3) (b_iM_scale : 1 ≤ iM_scale.toInt ∧ iM_scale.toInt ≤ 1296) (b_iM_breaths : 0 ≤ iM_breaths.toInt ∧ iM_breaths.toInt ≤ 399) (b_iM_cutMany : 0 ≤ iM_cutMany.toInt ∧ iM_cutMany.toInt ≤ 399) (r_R : ROk fM_r) (r_C : iM_hasCourt.toInt ≤ 0 ∨ (1 ≤ (fM_r 1).toInt ∧ 0 ≤ (fM_r 6).toInt ∧ (fM_r 6).toInt < (fM_r 1).toInt)) (r_told : RowOk fM_r fM_told) (hth : 0 ≤ (fM_r 6).toInt ∧ (fM_r 6).toInt < (fM_r 1).toInt) : Met l yX7_askedFirst (Cond.code yX7_askedFirst cX7_askedFirst 3 (some .int) :: wG) ({ frames := 24, cells := 0, slots := 0, locals := 630 }) (va_Pc [.ref oM] (Pw dC dI sz [(oc7 oM iM_thrown rM_tape iM_taped iM_size iM_at iM_end iM_token iM_whole iM_nameSize iM_fault iM_place iM_trouble rM_letters iM_failed iM_hasCourt rM_r rM_fresh rM_told rM_read rM_st rM_undone rM_kept iM_undos iM_images rM_fresher iM_fresherSize iM_scale iM_night rM_heardRow rM_cutRow iM_breaths iM_cutMany iM_allBreaths rM_trial rM_words iM_fewestBreaths iM_orderMany iM_orderSum iM_leastOrder rM_often iM_setMany iM_someOf iM_allOf iM_allWeight iM_enoughWeight iM_worthSum iM_firstRest iM_leastDrawn), (arI rM_r kM_r 287 fM_r), (arI rM_told kM_told 90 fM_told), (arI rM_trial kM_trial 90 fM_trial), (arI rM_often kM_often 4 fM_often)] [(kM_r, .int), (kM_told, .int), (kM_trial, .int), (kM_often, .int)])) (va_Qi (fun (r : Int32) (_ : Nat) => True ∧ ((-2) ≤ r.toInt ∧ r.toInt ≤ 3)) (fun (_ : Nat) (t : State) => ∃ (niM_setMany : Int32) (niM_someOf : Int32) (niM_allOf : Int32) (nfM_trial : Nat → Int32) (nfM_often : Nat → Int32), Bw dC dI (va_A [(oc7 oM iM_thrown rM_tape iM_taped iM_size iM_at iM_end iM_token iM_whole iM_nameSize iM_fault iM_place iM_trouble rM_letters iM_failed iM_hasCourt rM_r rM_fresh rM_told rM_read rM_st rM_undone rM_kept iM_undos iM_images rM_fresher iM_fresherSize iM_scale iM_night rM_heardRow rM_cutRow iM_breaths iM_cutMany iM_allBreaths rM_trial rM_words iM_fewestBreaths iM_orderMany iM_orderSum iM_leastOrder rM_often iM_setMany iM_someOf iM_allOf iM_allWeight iM_enoughWeight iM_worthSum iM_firstRest iM_leastDrawn), (arI rM_r kM_r 287 fM_r), (arI rM_told kM_told 90 fM_told), (arI rM_trial kM_trial 90 fM_trial), (arI rM_often kM_often 4 fM_often)] sz) [(oc7 oM iM_thrown rM_tape iM_taped iM_size iM_at iM_end iM_token iM_whole iM_nameSize iM_fault iM_place iM_trouble rM_letters iM_failed iM_hasCourt rM_r rM_fresh rM_told rM_read rM_st rM_undone rM_kept iM_undos iM_images rM_fresher iM_fresherSize iM_scale iM_night rM_heardRow rM_cutRow iM_breaths iM_cutMany iM_allBreaths rM_trial rM_words iM_fewestBreaths iM_orderMany iM_orderSum iM_leastOrder rM_often niM_setMany niM_someOf niM_allOf iM_allWeight iM_enoughWeight iM_worthSum iM_firstRest iM_leastDrawn), (arI rM_r kM_r 287 fM_r), (arI rM_told kM_told 90 fM_told), (arI rM_trial kM_trial 90 nfM_trial), (arI rM_often kM_often 4 nfM_often)] [(kM_r, .int), (kM_told, .int), (kM_trial, .int), (kM_often, .int)] t) (va_A [(oc7 oM iM_thrown rM_tape iM_taped iM_size iM_at iM_end iM_token iM_whole iM_nameSize iM_fault iM_place iM_trouble rM_letters iM_failed iM_hasCourt rM_r rM_fresh rM_told rM_read rM_st rM_undone rM_kept iM_undos iM_images rM_fresher iM_fresherSize iM_scale iM_night rM_heardRow rM_cutRow iM_breaths iM_cutMany iM_allBreaths rM_trial rM_words iM_fewestBreaths iM_orderMany iM_orderSum iM_leastOrder rM_often iM_setMany iM_someOf iM_allOf iM_allWeight iM_enoughWeight iM_worthSum iM_firstRest iM_leastDrawn), (arI rM_r kM_r 287 fM_r), (arI rM_told kM_told 90 fM_told), (arI rM_trial kM_trial 90 fM_trial), (arI rM_often kM_often 4 fM_often)] sz)) 0 0 (va_A [(oc7 oM iM_thrown rM_tape iM_taped iM_size iM_at iM_end iM_token iM_whole iM_nameSize iM_fault iM_place iM_trouble rM_letters iM_failed iM_hasCourt rM_r rM_fresh rM_told rM_read rM_st rM_undone rM_kept iM_undos iM_images rM_fresher iM_fresherSize iM_scale iM_night rM_heardRow rM_cutRow iM_breaths iM_cutMany iM_allBreaths rM_trial rM_words iM_fewestBreaths iM_orderMany iM_orderSum iM_leastOrder rM_often iM_setMany iM_someOf iM_allOf iM_allWeight iM_enoughWeight iM_worthSum iM_firstRest iM_leastDrawn), (arI rM_r kM_r 287 fM_r), (arI rM_told kM_told 90 fM_told), (arI rM_trial kM_trial 90 fM_trial), (arI rM_often kM_often 4 fM_often)] sz) := by
  refine Met.ofW (cc := cX7_askedFirst) (maxL := 3) (ret := (some .int)) pnX7 rfl ?_
  intro p e s m args below meth c s₁ B hml hv
  obtain ⟨rfl, hsz, hP, hK, hD0, hE⟩ := hv
  have hx := B.exec
  have hb := B.bytes
  have hr := B.returns
  have hts : ∀ w ∈ wG, w.before ([.ref oM] : List Value).toArray s = true := fun w h => atoms_spec (ws := Cond.code yX7_askedFirst cX7_askedFirst 3 (some .int) :: wG) B.pre w (List.mem_cons_of_mem _ h)
  have hown : s.vm.findClass RX7 = some m.cls := own_of B.named rfl
  have hlocks := B.notSynchronized
  subst hsz
  have hD := hD0.self (sz := s.heap.size)
  generalize hAe : va_A [(oc7 oM iM_thrown rM_tape iM_taped iM_size iM_at iM_end iM_token iM_whole iM_nameSize iM_fault iM_place iM_trouble rM_letters iM_failed iM_hasCourt rM_r rM_fresh rM_told rM_read rM_st rM_undone rM_kept iM_undos iM_images rM_fresher iM_fresherSize iM_scale iM_night rM_heardRow rM_cutRow iM_breaths iM_cutMany iM_allBreaths rM_trial rM_words iM_fewestBreaths iM_orderMany iM_orderSum iM_leastOrder rM_often iM_setMany iM_someOf iM_allOf iM_allWeight iM_enoughWeight iM_worthSum iM_firstRest iM_leastDrawn), (arI rM_r kM_r 287 fM_r), (arI rM_told kM_told 90 fM_told), (arI rM_trial kM_trial 90 fM_trial), (arI rM_often kM_often 4 fM_often)] s.heap.size = A at hD hE ⊢
  have hA : ∀ q : Nat, s.heap.size ≤ q → A q := fun q h => by rw [← hAe]; exact Or.inr h
  have hS : va_S A s.heap s.heap [] := va_S.rf
  have hl := lv_entry ([.ref oM]) (n := 3) (Nat.le_of_ble_eq_true rfl)
  rw [lg_entry_eq]
  generalize (lg_sl ([.ref oM]) ++ List.replicate (3 - (lg_sl ([.ref oM])).length) Slot.unset).toArray = ls at hl ⊢
  have hl : lv_has ls 3 [(0, .ref oM)] := hl
  have s_slips := r_R.slips
  have s_nodes := r_R.nodes
  have s_uns := r_R.uns
  refine lv_aload_n hx hb dX7_askedFirst_0 rfl (lv_at hl 0 rfl) ?_
  refine lv_iconst (v := (-1)) hx hb dX7_askedFirst_1 (by decide) ?_
  have hFc := va_freeI hD hS hA
  refine va_calli (va_runV (As := [.int (-1)]) (rest := []) ⟨hx, hb, hml, hown, hts⟩ (tX7_seekSets l dC dI _ oM iM_thrown rM_tape iM_taped iM_size iM_at iM_end iM_token iM_whole iM_nameSize iM_fault iM_place iM_trouble rM_letters iM_failed iM_hasCourt rM_r fM_r kM_r rM_fresh rM_told fM_told kM_told rM_read rM_st rM_undone rM_kept iM_undos iM_images rM_fresher iM_fresherSize iM_scale iM_night rM_heardRow rM_cutRow iM_breaths iM_cutMany iM_allBreaths rM_trial fM_trial kM_trial rM_words iM_fewestBreaths iM_orderMany iM_orderSum iM_leastOrder rM_often fM_often kM_often iM_setMany iM_someOf iM_allOf iM_allWeight iM_enoughWeight iM_worthSum iM_firstRest iM_leastDrawn (-1) b_iM_taped b_iM_size b_iM_end b_iM_failed b_iM_hasCourt b_iM_undos b_iM_images b_iM_scale b_iM_breaths b_iM_cutMany (by assumption) (by assumption) (by assumption) ⟨hth.1, hth.2⟩) (cwV 1 hts (wd_V wd_1182 wd_1183 wd_1184 wd_5 (wd_c wd_1185)) rfl rfl rfl dv_yX7_seekSets_1 ⟨Nat.le_of_ble_eq_true rfl, Nat.le_of_ble_eq_true rfl⟩) ⟨Pw.fb, recvX7 hK hP (q0 := 0) rfl, fun U hU hW => Pw.to hP hD hK hE hS hFc hU hW⟩ rfl rfl hl.1 rfl (lv_room (Nat.le_of_ble_eq_true rfl)) dX7_askedFirst_2 ⟨Nat.le_of_ble_eq_true rfl, Nat.le_of_ble_eq_true rfl⟩) hS (fun q _ h => hFc q h) hFc (fun r u t H locs ht hvm hw hB hz1 hk1 hS => ?_)
  refine ex_5_0 hB (fun x_2731 x_2732 x_2733 f_2734 f_2735 hB => ?_)
  obtain ⟨hP, hD⟩ := Bw.goA (ws' := [(oc7 oM iM_thrown rM_tape iM_taped iM_size iM_at iM_end iM_token iM_whole iM_nameSize iM_fault iM_place iM_trouble rM_letters iM_failed iM_hasCourt rM_r rM_fresh rM_told rM_read rM_st rM_undone rM_kept iM_undos iM_images rM_fresher iM_fresherSize iM_scale iM_night rM_heardRow rM_cutRow iM_breaths iM_cutMany iM_allBreaths rM_trial rM_words iM_fewestBreaths iM_orderMany iM_orderSum iM_leastOrder rM_often x_2731 x_2732 x_2733 iM_allWeight iM_enoughWeight iM_worthSum iM_firstRest iM_leastDrawn), (arI rM_r kM_r 287 fM_r), (arI rM_told kM_told 90 fM_told), (arI rM_trial kM_trial 90 f_2734), (arI rM_often kM_often 4 f_2735)]) hB rfl ht hFc rfl
  clear hz1 hk1 hvm ht hB
  have rg_x_2731 := fb_rng x_2731
  have rg_x_2732 := fb_rng x_2732
  have rg_x_2733 := fb_rng x_2733
  obtain ⟨x_2736, rfl⟩ : ∃ z, z = r := ⟨_, rfl⟩
  have rg_x_2736 := fb_rng x_2736
  refine lv_pop hx hb dX7_askedFirst_5 rfl ?_
  refine lv_bipush (v := (-2)) hx hb dX7_askedFirst_6 (by decide) ?_
  refine lv_istore_n (lv' := [(1, .int (-2)), (0, .ref oM)]) hx hb dX7_askedFirst_8 rfl hl (by decide) rfl (fun ls hl => ?_)
  refine lv_iconst (v := 0) hx hb dX7_askedFirst_9 (by decide) ?_
  refine lv_istore_n (lv' := [(2, .int 0), (1, .int (-2)), (0, .ref oM)]) hx hb dX7_askedFirst_10 rfl hl (by decide) rfl (fun ls hl => ?_)
  have hl := lv_sub hl (l' := [(2, .int 0), (1, .int (-2)), (0, .ref oM)]) [0, 1, 2] rfl
  have key_n_2739 : ∀ (n_2739 : Nat) (z_2737 : Int32) (z_2738 : Int32) (H : Heap) (locs : List Loc) (ls : Array Slot), (0 ≤ z_2737.toInt ∧ z_2737.toInt ≤ 2147483647) → ((-2) ≤ z_2738.toInt ∧ z_2738.toInt ≤ 3) → (2147483647 - z_2737.toInt).toNat < n_2739 → va_P (dC, dI) vwCl [(oc7 oM iM_thrown rM_tape iM_taped iM_size iM_at iM_end iM_token iM_whole iM_nameSize iM_fault iM_place iM_trouble rM_letters iM_failed iM_hasCourt rM_r rM_fresh rM_told rM_read rM_st rM_undone rM_kept iM_undos iM_images rM_fresher iM_fresherSize iM_scale iM_night rM_heardRow rM_cutRow iM_breaths iM_cutMany iM_allBreaths rM_trial rM_words iM_fewestBreaths iM_orderMany iM_orderSum iM_leastOrder rM_often x_2731 x_2732 x_2733 iM_allWeight iM_enoughWeight iM_worthSum iM_firstRest iM_leastDrawn), (arI rM_r kM_r 287 fM_r), (arI rM_told kM_told 90 fM_told), (arI rM_trial kM_trial 90 f_2734), (arI rM_often kM_often 4 f_2735)] H → va_D A [(oc7 oM iM_thrown rM_tape iM_taped iM_size iM_at iM_end iM_token iM_whole iM_nameSize iM_fault iM_place iM_trouble rM_letters iM_failed iM_hasCourt rM_r rM_fresh rM_told rM_read rM_st rM_undone rM_kept iM_undos iM_images rM_fresher iM_fresherSize iM_scale iM_night rM_heardRow rM_cutRow iM_breaths iM_cutMany iM_allBreaths rM_trial rM_words iM_fewestBreaths iM_orderMany iM_orderSum iM_leastOrder rM_often x_2731 x_2732 x_2733 iM_allWeight iM_enoughWeight iM_worthSum iM_firstRest iM_leastDrawn), (arI rM_r kM_r 287 fM_r), (arI rM_told kM_told 90 fM_told), (arI rM_trial kM_trial 90 f_2734), (arI rM_often kM_often 4 f_2735)] → va_S A s.heap H locs → lv_has ls 3 [(2, .int z_2737), (1, .int z_2738), (0, .ref oM)] → W p l e (headSpec (Cond.code yX7_askedFirst cX7_askedFirst 3 (some .int) :: wG) ({ frames := 24, cells := 0, slots := 0, locals := 630 })).room s m ([.ref oM] : List Value).toArray below meth c H locs 0 0 (MQ below (va_Qi (fun (r : Int32) (_ : Nat) => True ∧ ((-2) ≤ r.toInt ∧ r.toInt ≤ 3)) (fun (_ : Nat) (t : State) => ∃ (niM_setMany : Int32) (niM_someOf : Int32) (niM_allOf : Int32) (nfM_trial : Nat → Int32) (nfM_often : Nat → Int32), Bw dC dI A [(oc7 oM iM_thrown rM_tape iM_taped iM_size iM_at iM_end iM_token iM_whole iM_nameSize iM_fault iM_place iM_trouble rM_letters iM_failed iM_hasCourt rM_r rM_fresh rM_told rM_read rM_st rM_undone rM_kept iM_undos iM_images rM_fresher iM_fresherSize iM_scale iM_night rM_heardRow rM_cutRow iM_breaths iM_cutMany iM_allBreaths rM_trial rM_words iM_fewestBreaths iM_orderMany iM_orderSum iM_leastOrder rM_often niM_setMany niM_someOf niM_allOf iM_allWeight iM_enoughWeight iM_worthSum iM_firstRest iM_leastDrawn), (arI rM_r kM_r 287 fM_r), (arI rM_told kM_told 90 fM_told), (arI rM_trial kM_trial 90 nfM_trial), (arI rM_often kM_often 4 nfM_often)] [(kM_r, .int), (kM_told, .int), (kM_trial, .int), (kM_often, .int)] t) A) ([.ref oM] : List Value).toArray s 0 0 A) (F0 m 11 ls []) := by
    intro n_2739
    induction n_2739 with
    | zero => intro z_2737 z_2738 H locs ls hi0_n_2739 hi1_n_2739 hm; exact absurd hm (Nat.not_lt_zero _)
    | succ n_2739 ih_n_2739 =>
      intro z_2737 z_2738 H locs ls hi0_n_2739 hi1_n_2739 hm_n_2739 hP hD hS hl
      have rg_z_2737 := fb_rng z_2737
      have rg_z_2738 := fb_rng z_2738
      refine lv_iload_n hx hb dX7_askedFirst_11 rfl (lv_at hl 0 rfl) ?_
      refine lv_aload_n hx hb dX7_askedFirst_12 rfl (lv_at hl 2 rfl) ?_
      refine va_get (D := (dC, dI)) (ci := 7) (v := .ref rM_r) (C := RX7) (T := TX7) (N := 48) hx hb hts inX7 hown hK hP 0 rfl rfl 15 (by decide) (hts _ wd_155) (fun _ h9 => h9) rfl dX7_askedFirst_13 ?_
      refine lv_iconst (v := 3) hx hb dX7_askedFirst_16 (by decide) ?_
      refine va_iald hx hb hK hP 1 0 rfl rfl (by unfold vp_in; decide) dX7_askedFirst_17 ?_
      refine lv_topi (fun x_2740 ex_2740 => ?_)
      have rg_x_2740 := fb_rng x_2740
      have cx_2740 : (fM_r 3).toInt = x_2740.toInt := congrArg Int32.toInt (show fM_r 3 = x_2740 from ex_2740.symm)
      have sx_2740 := r_R.uns
      refine lv_icmp_ge (tgt := 53) hx hb dX7_askedFirst_18 (by decide) (fun c_2741 => ?_) (fun c_2741 => ?_)
      · skip
        have gc_2741 := ti_le c_2741 rfl rfl
        refine lv_iload_n hx hb dX7_askedFirst_53 rfl (lv_at hl 1 rfl) ?_
        exact wq_i hx hb hr 0 ⟨trivial, ⟨hi1_n_2739.1, hi1_n_2739.2⟩⟩ (fun t ht hW => ⟨x_2731, x_2732, x_2733, f_2734, f_2735, Bw.to hP hD hK ht hW⟩) hS dX7_askedFirst_54 hlocks
      · skip
        have gc_2741 := ti_nle c_2741 rfl rfl
        refine lv_aload_n hx hb dX7_askedFirst_21 rfl (lv_at hl 2 rfl) ?_
        refine va_get (D := (dC, dI)) (ci := 7) (v := .int x_2731) (C := RX7) (T := TX7) (N := 48) hx hb hts inX7 hown hK hP 0 rfl rfl 40 (by decide) (hts _ wd_1181) (fun _ h9 => h9) rfl dX7_askedFirst_22 ?_
        refine lv_if_le (tgt := 53) hx hb dX7_askedFirst_25 (by decide) (fun c_2742 => ?_) (fun c_2742 => ?_)
        · skip
          have gc_2742 := ti_le c_2742 rfl kc_0
          refine lv_iload_n hx hb dX7_askedFirst_53 rfl (lv_at hl 1 rfl) ?_
          exact wq_i hx hb hr 0 ⟨trivial, ⟨hi1_n_2739.1, hi1_n_2739.2⟩⟩ (fun t ht hW => ⟨x_2731, x_2732, x_2733, f_2734, f_2735, Bw.to hP hD hK ht hW⟩) hS dX7_askedFirst_54 hlocks
        · skip
          have gc_2742 := ti_nle c_2742 rfl kc_0
          refine lv_iload_n hx hb dX7_askedFirst_28 rfl (lv_at hl 1 rfl) ?_
          refine lv_if_lt (tgt := 45) hx hb dX7_askedFirst_29 (by decide) (fun c_2743 => ?_) (fun c_2743 => ?_)
          · skip
            have gc_2743 := ti_lt c_2743 rfl kc_0
            refine lv_iload_n hx hb dX7_askedFirst_45 rfl (lv_at hl 0 rfl) ?_
            refine lv_istore_n (lv' := [(1, .int z_2737), (2, .int z_2737), (0, .ref oM)]) hx hb dX7_askedFirst_46 rfl hl (by decide) rfl (fun ls hl => ?_)
            obtain ⟨x_2744, ex_2744⟩ : ∃ z : Int32, z = z_2737 + Int32.ofInt 1 := ⟨_, rfl⟩
            have vx_2744 : x_2744.toInt = z_2737.toInt + 1 := ti_add (y := 1) ex_2744 rfl kc_1 (om_4e4fce7e hi0_n_2739.1) (om_813b24f4 s_uns.2 cx_2740 gc_2741)
            refine lv_iinc (v := x_2744) (lv' := [(2, .int x_2744), (1, .int z_2737), (0, .ref oM)]) hx hb dX7_askedFirst_47 hl (k := 1) rfl ex_2744.symm (by decide) rfl (fun ls hl => ?_)
            refine lv_goto (tgt := 11) hx hb dX7_askedFirst_50 (by decide) ?_
            exact ih_n_2739 x_2744 z_2737 _ _ _  ⟨(om_83b90de5 hi0_n_2739.1 vx_2744), (om_2aa83bf6 s_uns.2 cx_2740 gc_2741 vx_2744)⟩ ⟨(om_eb349e14 hi0_n_2739.1), (om_081ed7e0 s_uns.2 cx_2740 gc_2741)⟩ (ms_lt hm_n_2739 (om_b9393183 vx_2744) (om_c1023465 s_uns.2 cx_2740 gc_2741)) hP hD hS (lv_sub hl [0, 1, 2] rfl)
          · skip
            have gc_2743 := ti_nlt c_2743 rfl kc_0
            refine lv_aload_n hx hb dX7_askedFirst_32 rfl (lv_at hl 2 rfl) ?_
            refine lv_iload_n hx hb dX7_askedFirst_33 rfl (lv_at hl 0 rfl) ?_
            have hMs := ml_of hD [true, false, false, false, true] (wc := [(oc7 oM iM_thrown rM_tape iM_taped iM_size iM_at iM_end iM_token iM_whole iM_nameSize iM_fault iM_place iM_trouble rM_letters iM_failed iM_hasCourt rM_r rM_fresh rM_told rM_read rM_st rM_undone rM_kept iM_undos iM_images rM_fresher iM_fresherSize iM_scale iM_night rM_heardRow rM_cutRow iM_breaths iM_cutMany iM_allBreaths rM_trial rM_words iM_fewestBreaths iM_orderMany iM_orderSum iM_leastOrder rM_often x_2731 x_2732 x_2733 iM_allWeight iM_enoughWeight iM_worthSum iM_firstRest iM_leastDrawn), (arI rM_often kM_often 4 f_2735)]) rfl
            have hFc := va_freeM hD hS hA _ hMs
            refine va_calli (va_runV (As := [.int z_2737]) (rest := []) ⟨hx, hb, hml, hown, hts⟩ (tX7_leavesOf l dC dI _ oM iM_thrown rM_tape iM_taped iM_size iM_at iM_end iM_token iM_whole iM_nameSize iM_fault iM_place iM_trouble rM_letters iM_failed iM_hasCourt rM_r rM_fresh rM_told rM_read rM_st rM_undone rM_kept iM_undos iM_images rM_fresher iM_fresherSize iM_scale iM_night rM_heardRow rM_cutRow iM_breaths iM_cutMany iM_allBreaths rM_trial rM_words iM_fewestBreaths iM_orderMany iM_orderSum iM_leastOrder rM_often f_2735 kM_often x_2731 x_2732 x_2733 iM_allWeight iM_enoughWeight iM_worthSum iM_firstRest iM_leastDrawn z_2737 b_iM_taped b_iM_size b_iM_end b_iM_failed b_iM_hasCourt b_iM_undos b_iM_images b_iM_scale b_iM_breaths b_iM_cutMany ⟨hi0_n_2739.1, (om_081ed7e0 s_uns.2 cx_2740 gc_2741)⟩) (cwV 1 hts (wd_V wd_1242 wd_1243 wd_1244 wd_5 (wd_c wd_1245)) rfl rfl rfl dv_yX7_leavesOf_1 ⟨Nat.le_of_ble_eq_true rfl, Nat.le_of_ble_eq_true rfl⟩) ⟨Pw.fb, recvX7 hK hP (q0 := 0) rfl, fun U hU hW => Pw.to (hP.ms _ hMs) (hD.ms _ hMs) (hK.ms [false, false, false, true] rfl) hE hS hFc hU hW⟩ rfl rfl hl.1 rfl (lv_room (Nat.le_of_ble_eq_true rfl)) dX7_askedFirst_34 ⟨Nat.le_of_ble_eq_true rfl, Nat.le_of_ble_eq_true rfl⟩) hS (fun q _ h => hFc q h) hFc (fun r u t H locs ht hvm hw hB hz1 hk1 hS => ?_)
            obtain ⟨hP, hD⟩ := Bw.goN (ws' := [(oc7 oM iM_thrown rM_tape iM_taped iM_size iM_at iM_end iM_token iM_whole iM_nameSize iM_fault iM_place iM_trouble rM_letters iM_failed iM_hasCourt rM_r rM_fresh rM_told rM_read rM_st rM_undone rM_kept iM_undos iM_images rM_fresher iM_fresherSize iM_scale iM_night rM_heardRow rM_cutRow iM_breaths iM_cutMany iM_allBreaths rM_trial rM_words iM_fewestBreaths iM_orderMany iM_orderSum iM_leastOrder rM_often x_2731 x_2732 x_2733 iM_allWeight iM_enoughWeight iM_worthSum iM_firstRest iM_leastDrawn), (arI rM_r kM_r 287 fM_r), (arI rM_told kM_told 90 fM_told), (arI rM_trial kM_trial 90 f_2734), (arI rM_often kM_often 4 f_2735)]) hB rfl ht hP hD _ hMs hk1 hFc rfl
            clear hz1 hk1 hvm ht hB hMs
            obtain ⟨x_2745, rfl⟩ : ∃ z, z = r := ⟨_, rfl⟩
            have rg_x_2745 := fb_rng x_2745
            refine lv_aload_n hx hb dX7_askedFirst_37 rfl (lv_at hl 2 rfl) ?_
            refine lv_iload_n hx hb dX7_askedFirst_38 rfl (lv_at hl 1 rfl) ?_
            have hMs := ml_of hD [true, false, false, false, true] (wc := [(oc7 oM iM_thrown rM_tape iM_taped iM_size iM_at iM_end iM_token iM_whole iM_nameSize iM_fault iM_place iM_trouble rM_letters iM_failed iM_hasCourt rM_r rM_fresh rM_told rM_read rM_st rM_undone rM_kept iM_undos iM_images rM_fresher iM_fresherSize iM_scale iM_night rM_heardRow rM_cutRow iM_breaths iM_cutMany iM_allBreaths rM_trial rM_words iM_fewestBreaths iM_orderMany iM_orderSum iM_leastOrder rM_often x_2731 x_2732 x_2733 iM_allWeight iM_enoughWeight iM_worthSum iM_firstRest iM_leastDrawn), (arI rM_often kM_often 4 f_2735)]) rfl
            have hFc := va_freeM hD hS hA _ hMs
            refine va_calli (va_runV (As := [.int z_2738]) (rest := [.int x_2745]) ⟨hx, hb, hml, hown, hts⟩ (tX7_leavesOf l dC dI _ oM iM_thrown rM_tape iM_taped iM_size iM_at iM_end iM_token iM_whole iM_nameSize iM_fault iM_place iM_trouble rM_letters iM_failed iM_hasCourt rM_r rM_fresh rM_told rM_read rM_st rM_undone rM_kept iM_undos iM_images rM_fresher iM_fresherSize iM_scale iM_night rM_heardRow rM_cutRow iM_breaths iM_cutMany iM_allBreaths rM_trial rM_words iM_fewestBreaths iM_orderMany iM_orderSum iM_leastOrder rM_often f_2735 kM_often x_2731 x_2732 x_2733 iM_allWeight iM_enoughWeight iM_worthSum iM_firstRest iM_leastDrawn z_2738 b_iM_taped b_iM_size b_iM_end b_iM_failed b_iM_hasCourt b_iM_undos b_iM_images b_iM_scale b_iM_breaths b_iM_cutMany ⟨gc_2743, hi1_n_2739.2⟩) (cwV 1 hts (wd_V wd_1242 wd_1243 wd_1244 wd_5 (wd_c wd_1245)) rfl rfl rfl dv_yX7_leavesOf_1 ⟨Nat.le_of_ble_eq_true rfl, Nat.le_of_ble_eq_true rfl⟩) ⟨Pw.fb, recvX7 hK hP (q0 := 0) rfl, fun U hU hW => Pw.to (hP.ms _ hMs) (hD.ms _ hMs) (hK.ms [false, false, false, true] rfl) hE hS hFc hU hW⟩ rfl rfl hl.1 rfl (lv_room (Nat.le_of_ble_eq_true rfl)) dX7_askedFirst_39 ⟨Nat.le_of_ble_eq_true rfl, Nat.le_of_ble_eq_true rfl⟩) hS (fun q _ h => hFc q h) hFc (fun r u t H locs ht hvm hw hB hz1 hk1 hS => ?_)
            obtain ⟨hP, hD⟩ := Bw.goN (ws' := [(oc7 oM iM_thrown rM_tape iM_taped iM_size iM_at iM_end iM_token iM_whole iM_nameSize iM_fault iM_place iM_trouble rM_letters iM_failed iM_hasCourt rM_r rM_fresh rM_told rM_read rM_st rM_undone rM_kept iM_undos iM_images rM_fresher iM_fresherSize iM_scale iM_night rM_heardRow rM_cutRow iM_breaths iM_cutMany iM_allBreaths rM_trial rM_words iM_fewestBreaths iM_orderMany iM_orderSum iM_leastOrder rM_often x_2731 x_2732 x_2733 iM_allWeight iM_enoughWeight iM_worthSum iM_firstRest iM_leastDrawn), (arI rM_r kM_r 287 fM_r), (arI rM_told kM_told 90 fM_told), (arI rM_trial kM_trial 90 f_2734), (arI rM_often kM_often 4 f_2735)]) hB rfl ht hP hD _ hMs hk1 hFc rfl
            clear hz1 hk1 hvm ht hB hMs
            obtain ⟨x_2746, rfl⟩ : ∃ z, z = r := ⟨_, rfl⟩
            have rg_x_2746 := fb_rng x_2746
            refine lv_icmp_ge (tgt := 47) hx hb dX7_askedFirst_42 (by decide) (fun c_2747 => ?_) (fun c_2747 => ?_)
            · skip
              have gc_2747 := ti_le c_2747 rfl rfl
              obtain ⟨x_2748, ex_2748⟩ : ∃ z : Int32, z = z_2737 + Int32.ofInt 1 := ⟨_, rfl⟩
              have vx_2748 : x_2748.toInt = z_2737.toInt + 1 := ti_add (y := 1) ex_2748 rfl kc_1 (om_4e4fce7e hi0_n_2739.1) (om_813b24f4 s_uns.2 cx_2740 gc_2741)
              refine lv_iinc (v := x_2748) (lv' := [(2, .int x_2748), (1, .int z_2738), (0, .ref oM)]) hx hb dX7_askedFirst_47 hl (k := 0) rfl ex_2748.symm (by decide) rfl (fun ls hl => ?_)
              refine lv_goto (tgt := 11) hx hb dX7_askedFirst_50 (by decide) ?_
              exact ih_n_2739 x_2748 z_2738 _ _ _  ⟨(om_83b90de5 hi0_n_2739.1 vx_2748), (om_2aa83bf6 s_uns.2 cx_2740 gc_2741 vx_2748)⟩ ⟨hi1_n_2739.1, hi1_n_2739.2⟩ (ms_lt hm_n_2739 (om_b9393183 vx_2748) (om_c1023465 s_uns.2 cx_2740 gc_2741)) hP hD hS (lv_sub hl [0, 1, 2] rfl)
            · skip
              have gc_2747 := ti_nle c_2747 rfl rfl
              refine lv_iload_n hx hb dX7_askedFirst_45 rfl (lv_at hl 0 rfl) ?_
              refine lv_istore_n (lv' := [(1, .int z_2737), (2, .int z_2737), (0, .ref oM)]) hx hb dX7_askedFirst_46 rfl hl (by decide) rfl (fun ls hl => ?_)
              obtain ⟨x_2749, ex_2749⟩ : ∃ z : Int32, z = z_2737 + Int32.ofInt 1 := ⟨_, rfl⟩
              have vx_2749 : x_2749.toInt = z_2737.toInt + 1 := ti_add (y := 1) ex_2749 rfl kc_1 (om_4e4fce7e hi0_n_2739.1) (om_813b24f4 s_uns.2 cx_2740 gc_2741)
              refine lv_iinc (v := x_2749) (lv' := [(2, .int x_2749), (1, .int z_2737), (0, .ref oM)]) hx hb dX7_askedFirst_47 hl (k := 1) rfl ex_2749.symm (by decide) rfl (fun ls hl => ?_)
              refine lv_goto (tgt := 11) hx hb dX7_askedFirst_50 (by decide) ?_
              exact ih_n_2739 x_2749 z_2737 _ _ _  ⟨(om_83b90de5 hi0_n_2739.1 vx_2749), (om_2aa83bf6 s_uns.2 cx_2740 gc_2741 vx_2749)⟩ ⟨(om_eb349e14 hi0_n_2739.1), (om_081ed7e0 s_uns.2 cx_2740 gc_2741)⟩ (ms_lt hm_n_2739 (om_b9393183 vx_2749) (om_c1023465 s_uns.2 cx_2740 gc_2741)) hP hD hS (lv_sub hl [0, 1, 2] rfl)
  exact key_n_2739 (((2147483647 - (0 : Int32).toInt).toNat) + 1) 0 (-2) _ _ _  ⟨(om_b1de7dbe kc_0), (om_daf17c64 kc_0)⟩ ⟨(om_7dd8a8cf kc_m2), (om_fefced54 kc_m2)⟩ (Nat.lt_add_one _) hP hD hS hl
set_option maxHeartbeats 4000000 in
set_option maxRecDepth 100000 in
theorem tX7_fits (l : Launch) (dC : Nat → ClassId) (dI : Nat → Nat → Nat) (sz : Nat) (oM : Nat) (iM_thrown : Int32) (rM_tape : Nat) (iM_taped : Int32) (iM_size : Int32) (iM_at : Int32) (iM_end : Int32) (iM_token : Int32) (iM_whole : Int32) (iM_nameSize : Int32) (iM_fault : Int32) (iM_place : Int32) (iM_trouble : Int32) (rM_letters : Nat) (iM_failed : Int32) (iM_hasCourt : Int32) (rM_r : Nat) (fM_r : Nat → Int32) (kM_r : ClassId) (rM_fresh : Nat) (rM_told : Nat) (fM_told : Nat → Int32) (kM_told : ClassId) (rM_read : Nat) (rM_st : Nat) (rM_undone : Nat) (rM_kept : Nat) (iM_undos : Int32) (iM_images : Int32) (rM_fresher : Nat) (iM_fresherSize : Int32) (iM_scale : Int32) (iM_night : Int32) (rM_heardRow : Nat) (rM_cutRow : Nat) (iM_breaths : Int32) (iM_cutMany : Int32) (iM_allBreaths : Int32) (rM_trial : Nat) (fM_trial : Nat → Int32) (kM_trial : ClassId) (rM_words : Nat) (iM_fewestBreaths : Int32) (iM_orderMany : Int32) (iM_orderSum : Int32) (iM_leastOrder : Int32) (rM_often : Nat) (fM_often : Nat → Int32) (kM_often : ClassId) (iM_setMany : Int32) (iM_someOf : Int32) (iM_allOf : Int32) (iM_allWeight : Int64) (iM_enoughWeight : Int64) (iM_worthSum : Int64) (iM_firstRest : Int32) (iM_leastDrawn : Int32) (b_iM_taped : 0 ≤ iM_taped.toInt ∧ iM_taped.toInt ≤ 900) (b_iM_size : 0 ≤ iM_size.toInt ∧ iM_size.toInt ≤ 900) (b_iM_end : 0 ≤ iM_end.toInt ∧ iM_end.toInt ≤ 900) (b_iM_failed : 0 ≤ iM_failed.toInt ∧ iM_failed.toInt ≤ 1) (b_iM_hasCourt : 0 ≤ iM_hasCourt.toInt ∧ iM_hasCourt.toInt ≤ 1) (b_iM_undos : 0 ≤ iM_undos.toInt ∧ iM_undos.toInt ≤ 16) (b_iM_images : 0 ≤ iM_images.toInt ∧ iM_images.toInt ≤ 3) (b_iM_scale : 1 ≤ iM_scale.toInt ∧ iM_scale.toInt ≤ 1296) (b_iM_breaths : 0 ≤ iM_breaths.toInt ∧ iM_breaths.toInt ≤ 399) (b_iM_cutMany : 0 ≤ iM_cutMany.toInt ∧ iM_cutMany.toInt ≤ 399) (r_R : ROk fM_r) (r_C : iM_hasCourt.toInt ≤ 0 ∨ (1 ≤ (fM_r 1).toInt ∧ 0 ≤ (fM_r 6).toInt ∧ (fM_r 6).toInt < (fM_r 1).toInt)) (r_told : RowOk fM_r fM_told)  : Met l yX7_fits (Cond.code yX7_fits cX7_fits 1 (some .int) :: wG) ({ frames := 24, cells := 0, slots := 0, locals := 630 }) (va_Pc [.ref oM] (Pw dC dI sz [(oc7 oM iM_thrown rM_tape iM_taped iM_size iM_at iM_end iM_token iM_whole iM_nameSize iM_fault iM_place iM_trouble rM_letters iM_failed iM_hasCourt rM_r rM_fresh rM_told rM_read rM_st rM_undone rM_kept iM_undos iM_images rM_fresher iM_fresherSize iM_scale iM_night rM_heardRow rM_cutRow iM_breaths iM_cutMany iM_allBreaths rM_trial rM_words iM_fewestBreaths iM_orderMany iM_orderSum iM_leastOrder rM_often iM_setMany iM_someOf iM_allOf iM_allWeight iM_enoughWeight iM_worthSum iM_firstRest iM_leastDrawn), (arI rM_r kM_r 287 fM_r), (arI rM_told kM_told 90 fM_told), (arI rM_trial kM_trial 90 fM_trial), (arI rM_often kM_often 4 fM_often)] [(kM_r, .int), (kM_told, .int), (kM_trial, .int), (kM_often, .int)])) (va_Qi (fun (r : Int32) (_ : Nat) => True ∧ True) (fun (_ : Nat) (t : State) => ∃ (niM_thrown : Int32) (niM_trouble : Int32) (niM_setMany : Int32) (niM_someOf : Int32) (niM_allOf : Int32) (nfM_trial : Nat → Int32) (nfM_often : Nat → Int32), Bw dC dI (va_A [(oc7 oM iM_thrown rM_tape iM_taped iM_size iM_at iM_end iM_token iM_whole iM_nameSize iM_fault iM_place iM_trouble rM_letters iM_failed iM_hasCourt rM_r rM_fresh rM_told rM_read rM_st rM_undone rM_kept iM_undos iM_images rM_fresher iM_fresherSize iM_scale iM_night rM_heardRow rM_cutRow iM_breaths iM_cutMany iM_allBreaths rM_trial rM_words iM_fewestBreaths iM_orderMany iM_orderSum iM_leastOrder rM_often iM_setMany iM_someOf iM_allOf iM_allWeight iM_enoughWeight iM_worthSum iM_firstRest iM_leastDrawn), (arI rM_r kM_r 287 fM_r), (arI rM_told kM_told 90 fM_told), (arI rM_trial kM_trial 90 fM_trial), (arI rM_often kM_often 4 fM_often)] sz) [(oc7 oM niM_thrown rM_tape iM_taped iM_size iM_at iM_end iM_token iM_whole iM_nameSize iM_fault iM_place niM_trouble rM_letters iM_failed iM_hasCourt rM_r rM_fresh rM_told rM_read rM_st rM_undone rM_kept iM_undos iM_images rM_fresher iM_fresherSize iM_scale iM_night rM_heardRow rM_cutRow iM_breaths iM_cutMany iM_allBreaths rM_trial rM_words iM_fewestBreaths iM_orderMany iM_orderSum iM_leastOrder rM_often niM_setMany niM_someOf niM_allOf iM_allWeight iM_enoughWeight iM_worthSum iM_firstRest iM_leastDrawn), (arI rM_r kM_r 287 fM_r), (arI rM_told kM_told 90 fM_told), (arI rM_trial kM_trial 90 nfM_trial), (arI rM_often kM_often 4 nfM_often)] [(kM_r, .int), (kM_told, .int), (kM_trial, .int), (kM_often, .int)] t) (va_A [(oc7 oM iM_thrown rM_tape iM_taped iM_size iM_at iM_end iM_token iM_whole iM_nameSize iM_fault iM_place iM_trouble rM_letters iM_failed iM_hasCourt rM_r rM_fresh rM_told rM_read rM_st rM_undone rM_kept iM_undos iM_images rM_fresher iM_fresherSize iM_scale iM_night rM_heardRow rM_cutRow iM_breaths iM_cutMany iM_allBreaths rM_trial rM_words iM_fewestBreaths iM_orderMany iM_orderSum iM_leastOrder rM_often iM_setMany iM_someOf iM_allOf iM_allWeight iM_enoughWeight iM_worthSum iM_firstRest iM_leastDrawn), (arI rM_r kM_r 287 fM_r), (arI rM_told kM_told 90 fM_told), (arI rM_trial kM_trial 90 fM_trial), (arI rM_often kM_often 4 fM_often)] sz)) 0 0 (va_A [(oc7 oM iM_thrown rM_tape iM_taped iM_size iM_at iM_end iM_token iM_whole iM_nameSize iM_fault iM_place iM_trouble rM_letters iM_failed iM_hasCourt rM_r rM_fresh rM_told rM_read rM_st rM_undone rM_kept iM_undos iM_images rM_fresher iM_fresherSize iM_scale iM_night rM_heardRow rM_cutRow iM_breaths iM_cutMany iM_allBreaths rM_trial rM_words iM_fewestBreaths iM_orderMany iM_orderSum iM_leastOrder rM_often iM_setMany iM_someOf iM_allOf iM_allWeight iM_enoughWeight iM_worthSum iM_firstRest iM_leastDrawn), (arI rM_r kM_r 287 fM_r), (arI rM_told kM_told 90 fM_told), (arI rM_trial kM_trial 90 fM_trial), (arI rM_often kM_often 4 fM_often)] sz) := by
  refine Met.ofW (cc := cX7_fits) (maxL := 1) (ret := (some .int)) pnX7 rfl ?_
  intro p e s m args below meth c s₁ B hml hv
  obtain ⟨rfl, hsz, hP, hK, hD0, hE⟩ := hv
  have hx := B.exec
  have hb := B.bytes
  have hr := B.returns
  have hts : ∀ w ∈ wG, w.before ([.ref oM] : List Value).toArray s = true := fun w h => atoms_spec (ws := Cond.code yX7_fits cX7_fits 1 (some .int) :: wG) B.pre w (List.mem_cons_of_mem _ h)
  have hown : s.vm.findClass RX7 = some m.cls := own_of B.named rfl
  have hlocks := B.notSynchronized
  subst hsz
  have hD := hD0.self (sz := s.heap.size)
  generalize hAe : va_A [(oc7 oM iM_thrown rM_tape iM_taped iM_size iM_at iM_end iM_token iM_whole iM_nameSize iM_fault iM_place iM_trouble rM_letters iM_failed iM_hasCourt rM_r rM_fresh rM_told rM_read rM_st rM_undone rM_kept iM_undos iM_images rM_fresher iM_fresherSize iM_scale iM_night rM_heardRow rM_cutRow iM_breaths iM_cutMany iM_allBreaths rM_trial rM_words iM_fewestBreaths iM_orderMany iM_orderSum iM_leastOrder rM_often iM_setMany iM_someOf iM_allOf iM_allWeight iM_enoughWeight iM_worthSum iM_firstRest iM_leastDrawn), (arI rM_r kM_r 287 fM_r), (arI rM_told kM_told 90 fM_told), (arI rM_trial kM_trial 90 fM_trial), (arI rM_often kM_often 4 fM_often)] s.heap.size = A at hD hE ⊢
  have hA : ∀ q : Nat, s.heap.size ≤ q → A q := fun q h => by rw [← hAe]; exact Or.inr h
  have hS : va_S A s.heap s.heap [] := va_S.rf
  have hl := lv_entry ([.ref oM]) (n := 1) (Nat.le_of_ble_eq_true rfl)
  rw [lg_entry_eq]
  generalize (lg_sl ([.ref oM]) ++ List.replicate (1 - (lg_sl ([.ref oM])).length) Slot.unset).toArray = ls at hl ⊢
  have hl : lv_has ls 1 [(0, .ref oM)] := hl
  have s_slips := r_R.slips
  have s_nodes := r_R.nodes
  have s_uns := r_R.uns
  refine lv_aload_n hx hb dX7_fits_0 rfl (lv_at hl 0 rfl) ?_
  have hMs := ml_of hD [true, false, false, false, false] (wc := [(oc7 oM iM_thrown rM_tape iM_taped iM_size iM_at iM_end iM_token iM_whole iM_nameSize iM_fault iM_place iM_trouble rM_letters iM_failed iM_hasCourt rM_r rM_fresh rM_told rM_read rM_st rM_undone rM_kept iM_undos iM_images rM_fresher iM_fresherSize iM_scale iM_night rM_heardRow rM_cutRow iM_breaths iM_cutMany iM_allBreaths rM_trial rM_words iM_fewestBreaths iM_orderMany iM_orderSum iM_leastOrder rM_often iM_setMany iM_someOf iM_allOf iM_allWeight iM_enoughWeight iM_worthSum iM_firstRest iM_leastDrawn)]) rfl
  have hFc := va_freeM hD hS hA _ hMs
  refine va_callv (va_runV (As := []) (rest := []) ⟨hx, hb, hml, hown, hts⟩ (tX7_good l dC dI _ oM iM_thrown rM_tape iM_taped iM_size iM_at iM_end iM_token iM_whole iM_nameSize iM_fault iM_place iM_trouble rM_letters iM_failed iM_hasCourt rM_r rM_fresh rM_told rM_read rM_st rM_undone rM_kept iM_undos iM_images rM_fresher iM_fresherSize iM_scale iM_night rM_heardRow rM_cutRow iM_breaths iM_cutMany iM_allBreaths rM_trial rM_words iM_fewestBreaths iM_orderMany iM_orderSum iM_leastOrder rM_often iM_setMany iM_someOf iM_allOf iM_allWeight iM_enoughWeight iM_worthSum iM_firstRest iM_leastDrawn b_iM_taped b_iM_size b_iM_end b_iM_failed b_iM_hasCourt b_iM_undos b_iM_images b_iM_scale b_iM_breaths b_iM_cutMany) (cwV 0 hts (wd_V wd_388 wd_389 wd_390 wd_5 (wd_c wd_391)) rfl rfl rfl dv_yX7_good_0 ⟨Nat.le_of_ble_eq_true rfl, Nat.le_of_ble_eq_true rfl⟩) ⟨Pw.fb, recvX7 hK hP (q0 := 0) rfl, fun U hU hW => Pw.to (hP.ms _ hMs) (hD.ms _ hMs) (hK.ms [false, false, false, false] rfl) hE hS hFc hU hW⟩ rfl rfl hl.1 rfl (lv_room (Nat.le_of_ble_eq_true rfl)) dX7_fits_1 ⟨Nat.le_of_ble_eq_true rfl, Nat.le_of_ble_eq_true rfl⟩) hS (fun q _ h => hFc q h) hFc (fun u t H locs ht hvm hw hB hz1 hk1 hS => ?_)
  refine ex_2_3 hB (fun x_2764 x_2765 b_x_2764 b_x_2765 e_x_2764_0 hB => ?_)
  obtain ⟨hP, hD⟩ := Bw.goN (ws' := [(oc7 oM x_2764 rM_tape iM_taped iM_size iM_at iM_end iM_token iM_whole iM_nameSize iM_fault iM_place x_2765 rM_letters iM_failed iM_hasCourt rM_r rM_fresh rM_told rM_read rM_st rM_undone rM_kept iM_undos iM_images rM_fresher iM_fresherSize iM_scale iM_night rM_heardRow rM_cutRow iM_breaths iM_cutMany iM_allBreaths rM_trial rM_words iM_fewestBreaths iM_orderMany iM_orderSum iM_leastOrder rM_often iM_setMany iM_someOf iM_allOf iM_allWeight iM_enoughWeight iM_worthSum iM_firstRest iM_leastDrawn), (arI rM_r kM_r 287 fM_r), (arI rM_told kM_told 90 fM_told), (arI rM_trial kM_trial 90 fM_trial), (arI rM_often kM_often 4 fM_often)]) hB rfl ht hP hD _ hMs hk1 hFc rfl
  clear hz1 hk1 hvm ht hB hMs
  refine lv_aload_n hx hb dX7_fits_4 rfl (lv_at hl 0 rfl) ?_
  rcases (id r_C) with r_C0 | r_C1
  · skip
    refine va_get (D := (dC, dI)) (ci := 7) (v := .int iM_hasCourt) (C := RX7) (T := TX7) (N := 48) hx hb hts inX7 hown hK hP 0 rfl rfl 14 (by decide) (hts _ wd_385) (fun _ h9 => h9) rfl dX7_fits_5 ?_
    refine lv_if_ne (tgt := 17) hx hb dX7_fits_8 (by decide) (fun c_2766 => ?_) (fun c_2766 => ?_)
    · skip
      have gc_2766 := ti_ne c_2766 rfl kc_0
      exact (om_c9ba8b89 gc_2766 r_C0 b_iM_hasCourt.1).elim
    · skip
      have gc_2766 := ti_eq c_2766 rfl kc_0
      refine lv_aload_n hx hb dX7_fits_11 rfl (lv_at hl 0 rfl) ?_
      refine lv_iconst (v := 1) hx hb dX7_fits_12 (by decide) ?_
      have hMs := ml_of hD [true, false, false, false, false] (wc := [(oc7 oM x_2764 rM_tape iM_taped iM_size iM_at iM_end iM_token iM_whole iM_nameSize iM_fault iM_place x_2765 rM_letters iM_failed iM_hasCourt rM_r rM_fresh rM_told rM_read rM_st rM_undone rM_kept iM_undos iM_images rM_fresher iM_fresherSize iM_scale iM_night rM_heardRow rM_cutRow iM_breaths iM_cutMany iM_allBreaths rM_trial rM_words iM_fewestBreaths iM_orderMany iM_orderSum iM_leastOrder rM_often iM_setMany iM_someOf iM_allOf iM_allWeight iM_enoughWeight iM_worthSum iM_firstRest iM_leastDrawn)]) rfl
      have hFc := va_freeM hD hS hA _ hMs
      refine va_calli (va_runV (As := [.int 1]) (rest := []) ⟨hx, hb, hml, hown, hts⟩ (tX7_no l dC dI _ oM x_2764 rM_tape iM_taped iM_size iM_at iM_end iM_token iM_whole iM_nameSize iM_fault iM_place x_2765 rM_letters iM_failed iM_hasCourt rM_r rM_fresh rM_told rM_read rM_st rM_undone rM_kept iM_undos iM_images rM_fresher iM_fresherSize iM_scale iM_night rM_heardRow rM_cutRow iM_breaths iM_cutMany iM_allBreaths rM_trial rM_words iM_fewestBreaths iM_orderMany iM_orderSum iM_leastOrder rM_often iM_setMany iM_someOf iM_allOf iM_allWeight iM_enoughWeight iM_worthSum iM_firstRest iM_leastDrawn 1 b_iM_taped b_iM_size b_iM_end b_iM_failed b_iM_hasCourt b_iM_undos b_iM_images b_iM_scale b_iM_breaths b_iM_cutMany) (cwV 1 hts (wd_V wd_396 wd_397 wd_398 wd_5 (wd_c wd_399)) rfl rfl rfl dv_yX7_no_1 ⟨Nat.le_of_ble_eq_true rfl, Nat.le_of_ble_eq_true rfl⟩) ⟨Pw.fb, recvX7 hK hP (q0 := 0) rfl, fun U hU hW => Pw.to (hP.ms _ hMs) (hD.ms _ hMs) (hK.ms [false, false, false, false] rfl) hE hS hFc hU hW⟩ rfl rfl hl.1 rfl (lv_room (Nat.le_of_ble_eq_true rfl)) dX7_fits_13 ⟨Nat.le_of_ble_eq_true rfl, Nat.le_of_ble_eq_true rfl⟩) hS (fun q _ h => hFc q h) hFc (fun r u t H locs ht hvm hw hB hz1 hk1 hS => ?_)
      have hru9 := hw.2
      have hw := hw.1
      refine ex_1_1 hB (fun x_2767 e_x_2767_0 hB => ?_)
      obtain ⟨hP, hD⟩ := Bw.goN (ws' := [(oc7 oM x_2764 rM_tape iM_taped iM_size iM_at iM_end iM_token iM_whole iM_nameSize iM_fault iM_place x_2767 rM_letters iM_failed iM_hasCourt rM_r rM_fresh rM_told rM_read rM_st rM_undone rM_kept iM_undos iM_images rM_fresher iM_fresherSize iM_scale iM_night rM_heardRow rM_cutRow iM_breaths iM_cutMany iM_allBreaths rM_trial rM_words iM_fewestBreaths iM_orderMany iM_orderSum iM_leastOrder rM_often iM_setMany iM_someOf iM_allOf iM_allWeight iM_enoughWeight iM_worthSum iM_firstRest iM_leastDrawn), (arI rM_r kM_r 287 fM_r), (arI rM_told kM_told 90 fM_told), (arI rM_trial kM_trial 90 fM_trial), (arI rM_often kM_often 4 fM_often)]) hB rfl ht hP hD _ hMs hk1 hFc rfl
      clear hz1 hk1 hvm ht hB hMs
      obtain ⟨x_2768, rfl⟩ : ∃ z, z = r := ⟨_, rfl⟩
      exact wq_i hx hb hr 0 ⟨trivial, trivial⟩ (fun t ht hW => ⟨x_2764, x_2767, iM_setMany, iM_someOf, iM_allOf, fM_trial, fM_often, Bw.to hP hD hK ht hW⟩) hS dX7_fits_16 hlocks
  · skip
    refine va_get (D := (dC, dI)) (ci := 7) (v := .int iM_hasCourt) (C := RX7) (T := TX7) (N := 48) hx hb hts inX7 hown hK hP 0 rfl rfl 14 (by decide) (hts _ wd_385) (fun _ h9 => h9) rfl dX7_fits_5 ?_
    refine lv_if_ne (tgt := 17) hx hb dX7_fits_8 (by decide) (fun c_2769 => ?_) (fun c_2769 => ?_)
    · skip
      have gc_2769 := ti_ne c_2769 rfl kc_0
      refine lv_aload_n hx hb dX7_fits_17 rfl (lv_at hl 0 rfl) ?_
      refine lv_iconst (v := (-1)) hx hb dX7_fits_18 (by decide) ?_
      have hFc := va_freeI hD hS hA
      refine va_calli (va_runV (As := [.int (-1)]) (rest := []) ⟨hx, hb, hml, hown, hts⟩ (tX7_seekSets l dC dI _ oM x_2764 rM_tape iM_taped iM_size iM_at iM_end iM_token iM_whole iM_nameSize iM_fault iM_place x_2765 rM_letters iM_failed iM_hasCourt rM_r fM_r kM_r rM_fresh rM_told fM_told kM_told rM_read rM_st rM_undone rM_kept iM_undos iM_images rM_fresher iM_fresherSize iM_scale iM_night rM_heardRow rM_cutRow iM_breaths iM_cutMany iM_allBreaths rM_trial fM_trial kM_trial rM_words iM_fewestBreaths iM_orderMany iM_orderSum iM_leastOrder rM_often fM_often kM_often iM_setMany iM_someOf iM_allOf iM_allWeight iM_enoughWeight iM_worthSum iM_firstRest iM_leastDrawn (-1) b_iM_taped b_iM_size b_iM_end b_iM_failed b_iM_hasCourt b_iM_undos b_iM_images b_iM_scale b_iM_breaths b_iM_cutMany (by assumption) (by assumption) (by assumption) ⟨r_C1.2.1, r_C1.2.2⟩) (cwV 1 hts (wd_V wd_1182 wd_1183 wd_1184 wd_5 (wd_c wd_1185)) rfl rfl rfl dv_yX7_seekSets_1 ⟨Nat.le_of_ble_eq_true rfl, Nat.le_of_ble_eq_true rfl⟩) ⟨Pw.fb, recvX7 hK hP (q0 := 0) rfl, fun U hU hW => Pw.to hP hD hK hE hS hFc hU hW⟩ rfl rfl hl.1 rfl (lv_room (Nat.le_of_ble_eq_true rfl)) dX7_fits_19 ⟨Nat.le_of_ble_eq_true rfl, Nat.le_of_ble_eq_true rfl⟩) hS (fun q _ h => hFc q h) hFc (fun r u t H locs ht hvm hw hB hz1 hk1 hS => ?_)
      refine ex_5_0 hB (fun x_2770 x_2771 x_2772 f_2773 f_2774 hB => ?_)
      obtain ⟨hP, hD⟩ := Bw.goA (ws' := [(oc7 oM x_2764 rM_tape iM_taped iM_size iM_at iM_end iM_token iM_whole iM_nameSize iM_fault iM_place x_2765 rM_letters iM_failed iM_hasCourt rM_r rM_fresh rM_told rM_read rM_st rM_undone rM_kept iM_undos iM_images rM_fresher iM_fresherSize iM_scale iM_night rM_heardRow rM_cutRow iM_breaths iM_cutMany iM_allBreaths rM_trial rM_words iM_fewestBreaths iM_orderMany iM_orderSum iM_leastOrder rM_often x_2770 x_2771 x_2772 iM_allWeight iM_enoughWeight iM_worthSum iM_firstRest iM_leastDrawn), (arI rM_r kM_r 287 fM_r), (arI rM_told kM_told 90 fM_told), (arI rM_trial kM_trial 90 f_2773), (arI rM_often kM_often 4 f_2774)]) hB rfl ht hFc rfl
      clear hz1 hk1 hvm ht hB
      obtain ⟨x_2775, rfl⟩ : ∃ z, z = r := ⟨_, rfl⟩
      refine lv_pop hx hb dX7_fits_22 rfl ?_
      refine lv_aload_n hx hb dX7_fits_23 rfl (lv_at hl 0 rfl) ?_
      refine va_get (D := (dC, dI)) (ci := 7) (v := .int x_2770) (C := RX7) (T := TX7) (N := 48) hx hb hts inX7 hown hK hP 0 rfl rfl 40 (by decide) (hts _ wd_1181) (fun _ h9 => h9) rfl dX7_fits_24 ?_
      exact wq_i hx hb hr 0 ⟨trivial, trivial⟩ (fun t ht hW => ⟨x_2764, x_2765, x_2770, x_2771, x_2772, f_2773, f_2774, Bw.to hP hD hK ht hW⟩) hS dX7_fits_27 hlocks
    · skip
      have gc_2769 := ti_eq c_2769 rfl kc_0
      refine lv_aload_n hx hb dX7_fits_11 rfl (lv_at hl 0 rfl) ?_
      refine lv_iconst (v := 1) hx hb dX7_fits_12 (by decide) ?_
      have hMs := ml_of hD [true, false, false, false, false] (wc := [(oc7 oM x_2764 rM_tape iM_taped iM_size iM_at iM_end iM_token iM_whole iM_nameSize iM_fault iM_place x_2765 rM_letters iM_failed iM_hasCourt rM_r rM_fresh rM_told rM_read rM_st rM_undone rM_kept iM_undos iM_images rM_fresher iM_fresherSize iM_scale iM_night rM_heardRow rM_cutRow iM_breaths iM_cutMany iM_allBreaths rM_trial rM_words iM_fewestBreaths iM_orderMany iM_orderSum iM_leastOrder rM_often iM_setMany iM_someOf iM_allOf iM_allWeight iM_enoughWeight iM_worthSum iM_firstRest iM_leastDrawn)]) rfl
      have hFc := va_freeM hD hS hA _ hMs
      refine va_calli (va_runV (As := [.int 1]) (rest := []) ⟨hx, hb, hml, hown, hts⟩ (tX7_no l dC dI _ oM x_2764 rM_tape iM_taped iM_size iM_at iM_end iM_token iM_whole iM_nameSize iM_fault iM_place x_2765 rM_letters iM_failed iM_hasCourt rM_r rM_fresh rM_told rM_read rM_st rM_undone rM_kept iM_undos iM_images rM_fresher iM_fresherSize iM_scale iM_night rM_heardRow rM_cutRow iM_breaths iM_cutMany iM_allBreaths rM_trial rM_words iM_fewestBreaths iM_orderMany iM_orderSum iM_leastOrder rM_often iM_setMany iM_someOf iM_allOf iM_allWeight iM_enoughWeight iM_worthSum iM_firstRest iM_leastDrawn 1 b_iM_taped b_iM_size b_iM_end b_iM_failed b_iM_hasCourt b_iM_undos b_iM_images b_iM_scale b_iM_breaths b_iM_cutMany) (cwV 1 hts (wd_V wd_396 wd_397 wd_398 wd_5 (wd_c wd_399)) rfl rfl rfl dv_yX7_no_1 ⟨Nat.le_of_ble_eq_true rfl, Nat.le_of_ble_eq_true rfl⟩) ⟨Pw.fb, recvX7 hK hP (q0 := 0) rfl, fun U hU hW => Pw.to (hP.ms _ hMs) (hD.ms _ hMs) (hK.ms [false, false, false, false] rfl) hE hS hFc hU hW⟩ rfl rfl hl.1 rfl (lv_room (Nat.le_of_ble_eq_true rfl)) dX7_fits_13 ⟨Nat.le_of_ble_eq_true rfl, Nat.le_of_ble_eq_true rfl⟩) hS (fun q _ h => hFc q h) hFc (fun r u t H locs ht hvm hw hB hz1 hk1 hS => ?_)
      have hru9 := hw.2
      have hw := hw.1
      refine ex_1_1 hB (fun x_2776 e_x_2776_0 hB => ?_)
      obtain ⟨hP, hD⟩ := Bw.goN (ws' := [(oc7 oM x_2764 rM_tape iM_taped iM_size iM_at iM_end iM_token iM_whole iM_nameSize iM_fault iM_place x_2776 rM_letters iM_failed iM_hasCourt rM_r rM_fresh rM_told rM_read rM_st rM_undone rM_kept iM_undos iM_images rM_fresher iM_fresherSize iM_scale iM_night rM_heardRow rM_cutRow iM_breaths iM_cutMany iM_allBreaths rM_trial rM_words iM_fewestBreaths iM_orderMany iM_orderSum iM_leastOrder rM_often iM_setMany iM_someOf iM_allOf iM_allWeight iM_enoughWeight iM_worthSum iM_firstRest iM_leastDrawn), (arI rM_r kM_r 287 fM_r), (arI rM_told kM_told 90 fM_told), (arI rM_trial kM_trial 90 fM_trial), (arI rM_often kM_often 4 fM_often)]) hB rfl ht hP hD _ hMs hk1 hFc rfl
      clear hz1 hk1 hvm ht hB hMs
      obtain ⟨x_2777, rfl⟩ : ∃ z, z = r := ⟨_, rfl⟩
      exact wq_i hx hb hr 0 ⟨trivial, trivial⟩ (fun t ht hW => ⟨x_2764, x_2776, iM_setMany, iM_someOf, iM_allOf, fM_trial, fM_often, Bw.to hP hD hK ht hW⟩) hS dX7_fits_16 hlocks
set_option maxHeartbeats 4000000 in
set_option maxRecDepth 100000 in
theorem tX7_could (l : Launch) (dC : Nat → ClassId) (dI : Nat → Nat → Nat) (sz : Nat) (oM : Nat) (iM_thrown : Int32) (rM_tape : Nat) (iM_taped : Int32) (iM_size : Int32) (iM_at : Int32) (iM_end : Int32) (iM_token : Int32) (iM_whole : Int32) (iM_nameSize : Int32) (iM_fault : Int32) (iM_place : Int32) (iM_trouble : Int32) (rM_letters : Nat) (iM_failed : Int32) (iM_hasCourt : Int32) (rM_r : Nat) (fM_r : Nat → Int32) (kM_r : ClassId) (rM_fresh : Nat) (rM_told : Nat) (fM_told : Nat → Int32) (kM_told : ClassId) (rM_read : Nat) (rM_st : Nat) (rM_undone : Nat) (rM_kept : Nat) (iM_undos : Int32) (iM_images : Int32) (rM_fresher : Nat) (iM_fresherSize : Int32) (iM_scale : Int32) (iM_night : Int32) (rM_heardRow : Nat) (rM_cutRow : Nat) (iM_breaths : Int32) (iM_cutMany : Int32) (iM_allBreaths : Int32) (rM_trial : Nat) (fM_trial : Nat → Int32) (kM_trial : ClassId) (rM_words : Nat) (iM_fewestBreaths : Int32) (iM_orderMany : Int32) (iM_orderSum : Int32) (iM_leastOrder : Int32) (rM_often : Nat) (fM_often : Nat → Int32) (kM_often : ClassId) (iM_setMany : Int32) (iM_someOf : Int32) (iM_allOf : Int32) (iM_allWeight : Int64) (iM_enoughWeight : Int64) (iM_worthSum : Int64) (iM_firstRest : Int32) (iM_leastDrawn : Int32) (b_iM_taped : 0 ≤ iM_taped.toInt ∧ iM_taped.toInt ≤ 900) (b_iM_size : 0 ≤ iM_size.toInt ∧ iM_size.toInt ≤ 900) (b_iM_end : 0 ≤ iM_end.toInt ∧ iM_end.toInt ≤ 900) (b_iM_failed : 0 ≤ iM_failed.toInt ∧ iM_failed.toInt ≤ 1) (b_iM_hasCourt : 0 ≤ iM_hasCourt.toInt ∧ iM_hasCourt.toInt ≤ 1) (b_iM_undos : 0 ≤ iM_undos.toInt ∧ iM_undos.toInt ≤ 16) (b_iM_images : 0 ≤ iM_images.toInt ∧ iM_images.toInt ≤ 3) (b_iM_scale : 1 ≤ iM_scale.toInt ∧ iM_scale.toInt ≤ 1296) (b_iM_breaths : 0 ≤ iM_breaths.toInt ∧ iM_breaths.toInt ≤ 399) (b_iM_cutMany : 0 ≤ iM_cutMany.toInt ∧ iM_cutMany.toInt ≤ 399) (r_R : ROk fM_r) (r_C : iM_hasCourt.toInt ≤ 0 ∨ (1 ≤ (fM_r 1).toInt ∧ 0 ≤ (fM_r 6).toInt ∧ (fM_r 6).toInt < (fM_r 1).toInt)) (r_told : RowOk fM_r fM_told)  : Met l yX7_could (Cond.code yX7_could cX7_could 1 (some .int) :: wG) ({ frames := 24, cells := 0, slots := 0, locals := 630 }) (va_Pc [.ref oM] (Pw dC dI sz [(oc7 oM iM_thrown rM_tape iM_taped iM_size iM_at iM_end iM_token iM_whole iM_nameSize iM_fault iM_place iM_trouble rM_letters iM_failed iM_hasCourt rM_r rM_fresh rM_told rM_read rM_st rM_undone rM_kept iM_undos iM_images rM_fresher iM_fresherSize iM_scale iM_night rM_heardRow rM_cutRow iM_breaths iM_cutMany iM_allBreaths rM_trial rM_words iM_fewestBreaths iM_orderMany iM_orderSum iM_leastOrder rM_often iM_setMany iM_someOf iM_allOf iM_allWeight iM_enoughWeight iM_worthSum iM_firstRest iM_leastDrawn), (arI rM_r kM_r 287 fM_r), (arI rM_told kM_told 90 fM_told), (arI rM_trial kM_trial 90 fM_trial), (arI rM_often kM_often 4 fM_often)] [(kM_r, .int), (kM_told, .int), (kM_trial, .int), (kM_often, .int)])) (va_Qi (fun (r : Int32) (_ : Nat) => True ∧ True) (fun (_ : Nat) (t : State) => ∃ (niM_thrown : Int32) (niM_trouble : Int32) (niM_setMany : Int32) (niM_someOf : Int32) (niM_allOf : Int32) (nfM_trial : Nat → Int32) (nfM_often : Nat → Int32), Bw dC dI (va_A [(oc7 oM iM_thrown rM_tape iM_taped iM_size iM_at iM_end iM_token iM_whole iM_nameSize iM_fault iM_place iM_trouble rM_letters iM_failed iM_hasCourt rM_r rM_fresh rM_told rM_read rM_st rM_undone rM_kept iM_undos iM_images rM_fresher iM_fresherSize iM_scale iM_night rM_heardRow rM_cutRow iM_breaths iM_cutMany iM_allBreaths rM_trial rM_words iM_fewestBreaths iM_orderMany iM_orderSum iM_leastOrder rM_often iM_setMany iM_someOf iM_allOf iM_allWeight iM_enoughWeight iM_worthSum iM_firstRest iM_leastDrawn), (arI rM_r kM_r 287 fM_r), (arI rM_told kM_told 90 fM_told), (arI rM_trial kM_trial 90 fM_trial), (arI rM_often kM_often 4 fM_often)] sz) [(oc7 oM niM_thrown rM_tape iM_taped iM_size iM_at iM_end iM_token iM_whole iM_nameSize iM_fault iM_place niM_trouble rM_letters iM_failed iM_hasCourt rM_r rM_fresh rM_told rM_read rM_st rM_undone rM_kept iM_undos iM_images rM_fresher iM_fresherSize iM_scale iM_night rM_heardRow rM_cutRow iM_breaths iM_cutMany iM_allBreaths rM_trial rM_words iM_fewestBreaths iM_orderMany iM_orderSum iM_leastOrder rM_often niM_setMany niM_someOf niM_allOf iM_allWeight iM_enoughWeight iM_worthSum iM_firstRest iM_leastDrawn), (arI rM_r kM_r 287 fM_r), (arI rM_told kM_told 90 fM_told), (arI rM_trial kM_trial 90 nfM_trial), (arI rM_often kM_often 4 nfM_often)] [(kM_r, .int), (kM_told, .int), (kM_trial, .int), (kM_often, .int)] t) (va_A [(oc7 oM iM_thrown rM_tape iM_taped iM_size iM_at iM_end iM_token iM_whole iM_nameSize iM_fault iM_place iM_trouble rM_letters iM_failed iM_hasCourt rM_r rM_fresh rM_told rM_read rM_st rM_undone rM_kept iM_undos iM_images rM_fresher iM_fresherSize iM_scale iM_night rM_heardRow rM_cutRow iM_breaths iM_cutMany iM_allBreaths rM_trial rM_words iM_fewestBreaths iM_orderMany iM_orderSum iM_leastOrder rM_often iM_setMany iM_someOf iM_allOf iM_allWeight iM_enoughWeight iM_worthSum iM_firstRest iM_leastDrawn), (arI rM_r kM_r 287 fM_r), (arI rM_told kM_told 90 fM_told), (arI rM_trial kM_trial 90 fM_trial), (arI rM_often kM_often 4 fM_often)] sz)) 0 0 (va_A [(oc7 oM iM_thrown rM_tape iM_taped iM_size iM_at iM_end iM_token iM_whole iM_nameSize iM_fault iM_place iM_trouble rM_letters iM_failed iM_hasCourt rM_r rM_fresh rM_told rM_read rM_st rM_undone rM_kept iM_undos iM_images rM_fresher iM_fresherSize iM_scale iM_night rM_heardRow rM_cutRow iM_breaths iM_cutMany iM_allBreaths rM_trial rM_words iM_fewestBreaths iM_orderMany iM_orderSum iM_leastOrder rM_often iM_setMany iM_someOf iM_allOf iM_allWeight iM_enoughWeight iM_worthSum iM_firstRest iM_leastDrawn), (arI rM_r kM_r 287 fM_r), (arI rM_told kM_told 90 fM_told), (arI rM_trial kM_trial 90 fM_trial), (arI rM_often kM_often 4 fM_often)] sz) := by
  refine Met.ofW (cc := cX7_could) (maxL := 1) (ret := (some .int)) pnX7 rfl ?_
  intro p e s m args below meth c s₁ B hml hv
  obtain ⟨rfl, hsz, hP, hK, hD0, hE⟩ := hv
  have hx := B.exec
  have hb := B.bytes
  have hr := B.returns
  have hts : ∀ w ∈ wG, w.before ([.ref oM] : List Value).toArray s = true := fun w h => atoms_spec (ws := Cond.code yX7_could cX7_could 1 (some .int) :: wG) B.pre w (List.mem_cons_of_mem _ h)
  have hown : s.vm.findClass RX7 = some m.cls := own_of B.named rfl
  have hlocks := B.notSynchronized
  subst hsz
  have hD := hD0.self (sz := s.heap.size)
  generalize hAe : va_A [(oc7 oM iM_thrown rM_tape iM_taped iM_size iM_at iM_end iM_token iM_whole iM_nameSize iM_fault iM_place iM_trouble rM_letters iM_failed iM_hasCourt rM_r rM_fresh rM_told rM_read rM_st rM_undone rM_kept iM_undos iM_images rM_fresher iM_fresherSize iM_scale iM_night rM_heardRow rM_cutRow iM_breaths iM_cutMany iM_allBreaths rM_trial rM_words iM_fewestBreaths iM_orderMany iM_orderSum iM_leastOrder rM_often iM_setMany iM_someOf iM_allOf iM_allWeight iM_enoughWeight iM_worthSum iM_firstRest iM_leastDrawn), (arI rM_r kM_r 287 fM_r), (arI rM_told kM_told 90 fM_told), (arI rM_trial kM_trial 90 fM_trial), (arI rM_often kM_often 4 fM_often)] s.heap.size = A at hD hE ⊢
  have hA : ∀ q : Nat, s.heap.size ≤ q → A q := fun q h => by rw [← hAe]; exact Or.inr h
  have hS : va_S A s.heap s.heap [] := va_S.rf
  have hl := lv_entry ([.ref oM]) (n := 1) (Nat.le_of_ble_eq_true rfl)
  rw [lg_entry_eq]
  generalize (lg_sl ([.ref oM]) ++ List.replicate (1 - (lg_sl ([.ref oM])).length) Slot.unset).toArray = ls at hl ⊢
  have hl : lv_has ls 1 [(0, .ref oM)] := hl
  have s_slips := r_R.slips
  have s_nodes := r_R.nodes
  have s_uns := r_R.uns
  refine lv_aload_n hx hb dX7_could_0 rfl (lv_at hl 0 rfl) ?_
  have hMs := ml_of hD [true, false, false, false, false] (wc := [(oc7 oM iM_thrown rM_tape iM_taped iM_size iM_at iM_end iM_token iM_whole iM_nameSize iM_fault iM_place iM_trouble rM_letters iM_failed iM_hasCourt rM_r rM_fresh rM_told rM_read rM_st rM_undone rM_kept iM_undos iM_images rM_fresher iM_fresherSize iM_scale iM_night rM_heardRow rM_cutRow iM_breaths iM_cutMany iM_allBreaths rM_trial rM_words iM_fewestBreaths iM_orderMany iM_orderSum iM_leastOrder rM_often iM_setMany iM_someOf iM_allOf iM_allWeight iM_enoughWeight iM_worthSum iM_firstRest iM_leastDrawn)]) rfl
  have hFc := va_freeM hD hS hA _ hMs
  refine va_callv (va_runV (As := []) (rest := []) ⟨hx, hb, hml, hown, hts⟩ (tX7_good l dC dI _ oM iM_thrown rM_tape iM_taped iM_size iM_at iM_end iM_token iM_whole iM_nameSize iM_fault iM_place iM_trouble rM_letters iM_failed iM_hasCourt rM_r rM_fresh rM_told rM_read rM_st rM_undone rM_kept iM_undos iM_images rM_fresher iM_fresherSize iM_scale iM_night rM_heardRow rM_cutRow iM_breaths iM_cutMany iM_allBreaths rM_trial rM_words iM_fewestBreaths iM_orderMany iM_orderSum iM_leastOrder rM_often iM_setMany iM_someOf iM_allOf iM_allWeight iM_enoughWeight iM_worthSum iM_firstRest iM_leastDrawn b_iM_taped b_iM_size b_iM_end b_iM_failed b_iM_hasCourt b_iM_undos b_iM_images b_iM_scale b_iM_breaths b_iM_cutMany) (cwV 0 hts (wd_V wd_388 wd_389 wd_390 wd_5 (wd_c wd_391)) rfl rfl rfl dv_yX7_good_0 ⟨Nat.le_of_ble_eq_true rfl, Nat.le_of_ble_eq_true rfl⟩) ⟨Pw.fb, recvX7 hK hP (q0 := 0) rfl, fun U hU hW => Pw.to (hP.ms _ hMs) (hD.ms _ hMs) (hK.ms [false, false, false, false] rfl) hE hS hFc hU hW⟩ rfl rfl hl.1 rfl (lv_room (Nat.le_of_ble_eq_true rfl)) dX7_could_1 ⟨Nat.le_of_ble_eq_true rfl, Nat.le_of_ble_eq_true rfl⟩) hS (fun q _ h => hFc q h) hFc (fun u t H locs ht hvm hw hB hz1 hk1 hS => ?_)
  refine ex_2_3 hB (fun x_2792 x_2793 b_x_2792 b_x_2793 e_x_2792_0 hB => ?_)
  obtain ⟨hP, hD⟩ := Bw.goN (ws' := [(oc7 oM x_2792 rM_tape iM_taped iM_size iM_at iM_end iM_token iM_whole iM_nameSize iM_fault iM_place x_2793 rM_letters iM_failed iM_hasCourt rM_r rM_fresh rM_told rM_read rM_st rM_undone rM_kept iM_undos iM_images rM_fresher iM_fresherSize iM_scale iM_night rM_heardRow rM_cutRow iM_breaths iM_cutMany iM_allBreaths rM_trial rM_words iM_fewestBreaths iM_orderMany iM_orderSum iM_leastOrder rM_often iM_setMany iM_someOf iM_allOf iM_allWeight iM_enoughWeight iM_worthSum iM_firstRest iM_leastDrawn), (arI rM_r kM_r 287 fM_r), (arI rM_told kM_told 90 fM_told), (arI rM_trial kM_trial 90 fM_trial), (arI rM_often kM_often 4 fM_often)]) hB rfl ht hP hD _ hMs hk1 hFc rfl
  clear hz1 hk1 hvm ht hB hMs
  refine lv_aload_n hx hb dX7_could_4 rfl (lv_at hl 0 rfl) ?_
  rcases (id r_C) with r_C0 | r_C1
  · skip
    refine va_get (D := (dC, dI)) (ci := 7) (v := .int iM_hasCourt) (C := RX7) (T := TX7) (N := 48) hx hb hts inX7 hown hK hP 0 rfl rfl 14 (by decide) (hts _ wd_385) (fun _ h9 => h9) rfl dX7_could_5 ?_
    refine lv_if_ne (tgt := 17) hx hb dX7_could_8 (by decide) (fun c_2794 => ?_) (fun c_2794 => ?_)
    · skip
      have gc_2794 := ti_ne c_2794 rfl kc_0
      exact (om_c9ba8b89 gc_2794 r_C0 b_iM_hasCourt.1).elim
    · skip
      have gc_2794 := ti_eq c_2794 rfl kc_0
      refine lv_aload_n hx hb dX7_could_11 rfl (lv_at hl 0 rfl) ?_
      refine lv_iconst (v := 1) hx hb dX7_could_12 (by decide) ?_
      have hMs := ml_of hD [true, false, false, false, false] (wc := [(oc7 oM x_2792 rM_tape iM_taped iM_size iM_at iM_end iM_token iM_whole iM_nameSize iM_fault iM_place x_2793 rM_letters iM_failed iM_hasCourt rM_r rM_fresh rM_told rM_read rM_st rM_undone rM_kept iM_undos iM_images rM_fresher iM_fresherSize iM_scale iM_night rM_heardRow rM_cutRow iM_breaths iM_cutMany iM_allBreaths rM_trial rM_words iM_fewestBreaths iM_orderMany iM_orderSum iM_leastOrder rM_often iM_setMany iM_someOf iM_allOf iM_allWeight iM_enoughWeight iM_worthSum iM_firstRest iM_leastDrawn)]) rfl
      have hFc := va_freeM hD hS hA _ hMs
      refine va_calli (va_runV (As := [.int 1]) (rest := []) ⟨hx, hb, hml, hown, hts⟩ (tX7_no l dC dI _ oM x_2792 rM_tape iM_taped iM_size iM_at iM_end iM_token iM_whole iM_nameSize iM_fault iM_place x_2793 rM_letters iM_failed iM_hasCourt rM_r rM_fresh rM_told rM_read rM_st rM_undone rM_kept iM_undos iM_images rM_fresher iM_fresherSize iM_scale iM_night rM_heardRow rM_cutRow iM_breaths iM_cutMany iM_allBreaths rM_trial rM_words iM_fewestBreaths iM_orderMany iM_orderSum iM_leastOrder rM_often iM_setMany iM_someOf iM_allOf iM_allWeight iM_enoughWeight iM_worthSum iM_firstRest iM_leastDrawn 1 b_iM_taped b_iM_size b_iM_end b_iM_failed b_iM_hasCourt b_iM_undos b_iM_images b_iM_scale b_iM_breaths b_iM_cutMany) (cwV 1 hts (wd_V wd_396 wd_397 wd_398 wd_5 (wd_c wd_399)) rfl rfl rfl dv_yX7_no_1 ⟨Nat.le_of_ble_eq_true rfl, Nat.le_of_ble_eq_true rfl⟩) ⟨Pw.fb, recvX7 hK hP (q0 := 0) rfl, fun U hU hW => Pw.to (hP.ms _ hMs) (hD.ms _ hMs) (hK.ms [false, false, false, false] rfl) hE hS hFc hU hW⟩ rfl rfl hl.1 rfl (lv_room (Nat.le_of_ble_eq_true rfl)) dX7_could_13 ⟨Nat.le_of_ble_eq_true rfl, Nat.le_of_ble_eq_true rfl⟩) hS (fun q _ h => hFc q h) hFc (fun r u t H locs ht hvm hw hB hz1 hk1 hS => ?_)
      have hru9 := hw.2
      have hw := hw.1
      refine ex_1_1 hB (fun x_2795 e_x_2795_0 hB => ?_)
      obtain ⟨hP, hD⟩ := Bw.goN (ws' := [(oc7 oM x_2792 rM_tape iM_taped iM_size iM_at iM_end iM_token iM_whole iM_nameSize iM_fault iM_place x_2795 rM_letters iM_failed iM_hasCourt rM_r rM_fresh rM_told rM_read rM_st rM_undone rM_kept iM_undos iM_images rM_fresher iM_fresherSize iM_scale iM_night rM_heardRow rM_cutRow iM_breaths iM_cutMany iM_allBreaths rM_trial rM_words iM_fewestBreaths iM_orderMany iM_orderSum iM_leastOrder rM_often iM_setMany iM_someOf iM_allOf iM_allWeight iM_enoughWeight iM_worthSum iM_firstRest iM_leastDrawn), (arI rM_r kM_r 287 fM_r), (arI rM_told kM_told 90 fM_told), (arI rM_trial kM_trial 90 fM_trial), (arI rM_often kM_often 4 fM_often)]) hB rfl ht hP hD _ hMs hk1 hFc rfl
      clear hz1 hk1 hvm ht hB hMs
      obtain ⟨x_2796, rfl⟩ : ∃ z, z = r := ⟨_, rfl⟩
      exact wq_i hx hb hr 0 ⟨trivial, trivial⟩ (fun t ht hW => ⟨x_2792, x_2795, iM_setMany, iM_someOf, iM_allOf, fM_trial, fM_often, Bw.to hP hD hK ht hW⟩) hS dX7_could_16 hlocks
  · skip
    refine va_get (D := (dC, dI)) (ci := 7) (v := .int iM_hasCourt) (C := RX7) (T := TX7) (N := 48) hx hb hts inX7 hown hK hP 0 rfl rfl 14 (by decide) (hts _ wd_385) (fun _ h9 => h9) rfl dX7_could_5 ?_
    refine lv_if_ne (tgt := 17) hx hb dX7_could_8 (by decide) (fun c_2797 => ?_) (fun c_2797 => ?_)
    · skip
      have gc_2797 := ti_ne c_2797 rfl kc_0
      refine lv_aload_n hx hb dX7_could_17 rfl (lv_at hl 0 rfl) ?_
      refine lv_iconst (v := (-1)) hx hb dX7_could_18 (by decide) ?_
      have hFc := va_freeI hD hS hA
      refine va_calli (va_runV (As := [.int (-1)]) (rest := []) ⟨hx, hb, hml, hown, hts⟩ (tX7_seekSets l dC dI _ oM x_2792 rM_tape iM_taped iM_size iM_at iM_end iM_token iM_whole iM_nameSize iM_fault iM_place x_2793 rM_letters iM_failed iM_hasCourt rM_r fM_r kM_r rM_fresh rM_told fM_told kM_told rM_read rM_st rM_undone rM_kept iM_undos iM_images rM_fresher iM_fresherSize iM_scale iM_night rM_heardRow rM_cutRow iM_breaths iM_cutMany iM_allBreaths rM_trial fM_trial kM_trial rM_words iM_fewestBreaths iM_orderMany iM_orderSum iM_leastOrder rM_often fM_often kM_often iM_setMany iM_someOf iM_allOf iM_allWeight iM_enoughWeight iM_worthSum iM_firstRest iM_leastDrawn (-1) b_iM_taped b_iM_size b_iM_end b_iM_failed b_iM_hasCourt b_iM_undos b_iM_images b_iM_scale b_iM_breaths b_iM_cutMany (by assumption) (by assumption) (by assumption) ⟨r_C1.2.1, r_C1.2.2⟩) (cwV 1 hts (wd_V wd_1182 wd_1183 wd_1184 wd_5 (wd_c wd_1185)) rfl rfl rfl dv_yX7_seekSets_1 ⟨Nat.le_of_ble_eq_true rfl, Nat.le_of_ble_eq_true rfl⟩) ⟨Pw.fb, recvX7 hK hP (q0 := 0) rfl, fun U hU hW => Pw.to hP hD hK hE hS hFc hU hW⟩ rfl rfl hl.1 rfl (lv_room (Nat.le_of_ble_eq_true rfl)) dX7_could_19 ⟨Nat.le_of_ble_eq_true rfl, Nat.le_of_ble_eq_true rfl⟩) hS (fun q _ h => hFc q h) hFc (fun r u t H locs ht hvm hw hB hz1 hk1 hS => ?_)
      refine ex_5_0 hB (fun x_2798 x_2799 x_2800 f_2801 f_2802 hB => ?_)
      obtain ⟨hP, hD⟩ := Bw.goA (ws' := [(oc7 oM x_2792 rM_tape iM_taped iM_size iM_at iM_end iM_token iM_whole iM_nameSize iM_fault iM_place x_2793 rM_letters iM_failed iM_hasCourt rM_r rM_fresh rM_told rM_read rM_st rM_undone rM_kept iM_undos iM_images rM_fresher iM_fresherSize iM_scale iM_night rM_heardRow rM_cutRow iM_breaths iM_cutMany iM_allBreaths rM_trial rM_words iM_fewestBreaths iM_orderMany iM_orderSum iM_leastOrder rM_often x_2798 x_2799 x_2800 iM_allWeight iM_enoughWeight iM_worthSum iM_firstRest iM_leastDrawn), (arI rM_r kM_r 287 fM_r), (arI rM_told kM_told 90 fM_told), (arI rM_trial kM_trial 90 f_2801), (arI rM_often kM_often 4 f_2802)]) hB rfl ht hFc rfl
      clear hz1 hk1 hvm ht hB
      obtain ⟨x_2803, rfl⟩ : ∃ z, z = r := ⟨_, rfl⟩
      refine lv_pop hx hb dX7_could_22 rfl ?_
      refine lv_aload_n hx hb dX7_could_23 rfl (lv_at hl 0 rfl) ?_
      refine va_get (D := (dC, dI)) (ci := 7) (v := .int x_2799) (C := RX7) (T := TX7) (N := 48) hx hb hts inX7 hown hK hP 0 rfl rfl 41 (by decide) (hts _ wd_1186) (fun _ h9 => h9) rfl dX7_could_24 ?_
      exact wq_i hx hb hr 0 ⟨trivial, trivial⟩ (fun t ht hW => ⟨x_2792, x_2793, x_2798, x_2799, x_2800, f_2801, f_2802, Bw.to hP hD hK ht hW⟩) hS dX7_could_27 hlocks
    · skip
      have gc_2797 := ti_eq c_2797 rfl kc_0
      refine lv_aload_n hx hb dX7_could_11 rfl (lv_at hl 0 rfl) ?_
      refine lv_iconst (v := 1) hx hb dX7_could_12 (by decide) ?_
      have hMs := ml_of hD [true, false, false, false, false] (wc := [(oc7 oM x_2792 rM_tape iM_taped iM_size iM_at iM_end iM_token iM_whole iM_nameSize iM_fault iM_place x_2793 rM_letters iM_failed iM_hasCourt rM_r rM_fresh rM_told rM_read rM_st rM_undone rM_kept iM_undos iM_images rM_fresher iM_fresherSize iM_scale iM_night rM_heardRow rM_cutRow iM_breaths iM_cutMany iM_allBreaths rM_trial rM_words iM_fewestBreaths iM_orderMany iM_orderSum iM_leastOrder rM_often iM_setMany iM_someOf iM_allOf iM_allWeight iM_enoughWeight iM_worthSum iM_firstRest iM_leastDrawn)]) rfl
      have hFc := va_freeM hD hS hA _ hMs
      refine va_calli (va_runV (As := [.int 1]) (rest := []) ⟨hx, hb, hml, hown, hts⟩ (tX7_no l dC dI _ oM x_2792 rM_tape iM_taped iM_size iM_at iM_end iM_token iM_whole iM_nameSize iM_fault iM_place x_2793 rM_letters iM_failed iM_hasCourt rM_r rM_fresh rM_told rM_read rM_st rM_undone rM_kept iM_undos iM_images rM_fresher iM_fresherSize iM_scale iM_night rM_heardRow rM_cutRow iM_breaths iM_cutMany iM_allBreaths rM_trial rM_words iM_fewestBreaths iM_orderMany iM_orderSum iM_leastOrder rM_often iM_setMany iM_someOf iM_allOf iM_allWeight iM_enoughWeight iM_worthSum iM_firstRest iM_leastDrawn 1 b_iM_taped b_iM_size b_iM_end b_iM_failed b_iM_hasCourt b_iM_undos b_iM_images b_iM_scale b_iM_breaths b_iM_cutMany) (cwV 1 hts (wd_V wd_396 wd_397 wd_398 wd_5 (wd_c wd_399)) rfl rfl rfl dv_yX7_no_1 ⟨Nat.le_of_ble_eq_true rfl, Nat.le_of_ble_eq_true rfl⟩) ⟨Pw.fb, recvX7 hK hP (q0 := 0) rfl, fun U hU hW => Pw.to (hP.ms _ hMs) (hD.ms _ hMs) (hK.ms [false, false, false, false] rfl) hE hS hFc hU hW⟩ rfl rfl hl.1 rfl (lv_room (Nat.le_of_ble_eq_true rfl)) dX7_could_13 ⟨Nat.le_of_ble_eq_true rfl, Nat.le_of_ble_eq_true rfl⟩) hS (fun q _ h => hFc q h) hFc (fun r u t H locs ht hvm hw hB hz1 hk1 hS => ?_)
      have hru9 := hw.2
      have hw := hw.1
      refine ex_1_1 hB (fun x_2804 e_x_2804_0 hB => ?_)
      obtain ⟨hP, hD⟩ := Bw.goN (ws' := [(oc7 oM x_2792 rM_tape iM_taped iM_size iM_at iM_end iM_token iM_whole iM_nameSize iM_fault iM_place x_2804 rM_letters iM_failed iM_hasCourt rM_r rM_fresh rM_told rM_read rM_st rM_undone rM_kept iM_undos iM_images rM_fresher iM_fresherSize iM_scale iM_night rM_heardRow rM_cutRow iM_breaths iM_cutMany iM_allBreaths rM_trial rM_words iM_fewestBreaths iM_orderMany iM_orderSum iM_leastOrder rM_often iM_setMany iM_someOf iM_allOf iM_allWeight iM_enoughWeight iM_worthSum iM_firstRest iM_leastDrawn), (arI rM_r kM_r 287 fM_r), (arI rM_told kM_told 90 fM_told), (arI rM_trial kM_trial 90 fM_trial), (arI rM_often kM_often 4 fM_often)]) hB rfl ht hP hD _ hMs hk1 hFc rfl
      clear hz1 hk1 hvm ht hB hMs
      obtain ⟨x_2805, rfl⟩ : ∃ z, z = r := ⟨_, rfl⟩
      exact wq_i hx hb hr 0 ⟨trivial, trivial⟩ (fun t ht hW => ⟨x_2792, x_2804, iM_setMany, iM_someOf, iM_allOf, fM_trial, fM_often, Bw.to hP hD hK ht hW⟩) hS dX7_could_16 hlocks
set_option maxHeartbeats 4000000 in
set_option maxRecDepth 100000 in
theorem tX7_surely (l : Launch) (dC : Nat → ClassId) (dI : Nat → Nat → Nat) (sz : Nat) (oM : Nat) (iM_thrown : Int32) (rM_tape : Nat) (iM_taped : Int32) (iM_size : Int32) (iM_at : Int32) (iM_end : Int32) (iM_token : Int32) (iM_whole : Int32) (iM_nameSize : Int32) (iM_fault : Int32) (iM_place : Int32) (iM_trouble : Int32) (rM_letters : Nat) (iM_failed : Int32) (iM_hasCourt : Int32) (rM_r : Nat) (fM_r : Nat → Int32) (kM_r : ClassId) (rM_fresh : Nat) (rM_told : Nat) (fM_told : Nat → Int32) (kM_told : ClassId) (rM_read : Nat) (rM_st : Nat) (rM_undone : Nat) (rM_kept : Nat) (iM_undos : Int32) (iM_images : Int32) (rM_fresher : Nat) (iM_fresherSize : Int32) (iM_scale : Int32) (iM_night : Int32) (rM_heardRow : Nat) (rM_cutRow : Nat) (iM_breaths : Int32) (iM_cutMany : Int32) (iM_allBreaths : Int32) (rM_trial : Nat) (fM_trial : Nat → Int32) (kM_trial : ClassId) (rM_words : Nat) (iM_fewestBreaths : Int32) (iM_orderMany : Int32) (iM_orderSum : Int32) (iM_leastOrder : Int32) (rM_often : Nat) (fM_often : Nat → Int32) (kM_often : ClassId) (iM_setMany : Int32) (iM_someOf : Int32) (iM_allOf : Int32) (iM_allWeight : Int64) (iM_enoughWeight : Int64) (iM_worthSum : Int64) (iM_firstRest : Int32) (iM_leastDrawn : Int32) (b_iM_taped : 0 ≤ iM_taped.toInt ∧ iM_taped.toInt ≤ 900) (b_iM_size : 0 ≤ iM_size.toInt ∧ iM_size.toInt ≤ 900) (b_iM_end : 0 ≤ iM_end.toInt ∧ iM_end.toInt ≤ 900) (b_iM_failed : 0 ≤ iM_failed.toInt ∧ iM_failed.toInt ≤ 1) (b_iM_hasCourt : 0 ≤ iM_hasCourt.toInt ∧ iM_hasCourt.toInt ≤ 1) (b_iM_undos : 0 ≤ iM_undos.toInt ∧ iM_undos.toInt ≤ 16) (b_iM_images : 0 ≤ iM_images.toInt ∧ iM_images.toInt ≤ 3) (b_iM_scale : 1 ≤ iM_scale.toInt ∧ iM_scale.toInt ≤ 1296) (b_iM_breaths : 0 ≤ iM_breaths.toInt ∧ iM_breaths.toInt ≤ 399) (b_iM_cutMany : 0 ≤ iM_cutMany.toInt ∧ iM_cutMany.toInt ≤ 399) (r_R : ROk fM_r) (r_C : iM_hasCourt.toInt ≤ 0 ∨ (1 ≤ (fM_r 1).toInt ∧ 0 ≤ (fM_r 6).toInt ∧ (fM_r 6).toInt < (fM_r 1).toInt)) (r_told : RowOk fM_r fM_told)  : Met l yX7_surely (Cond.code yX7_surely cX7_surely 1 (some .int) :: wG) ({ frames := 24, cells := 0, slots := 0, locals := 630 }) (va_Pc [.ref oM] (Pw dC dI sz [(oc7 oM iM_thrown rM_tape iM_taped iM_size iM_at iM_end iM_token iM_whole iM_nameSize iM_fault iM_place iM_trouble rM_letters iM_failed iM_hasCourt rM_r rM_fresh rM_told rM_read rM_st rM_undone rM_kept iM_undos iM_images rM_fresher iM_fresherSize iM_scale iM_night rM_heardRow rM_cutRow iM_breaths iM_cutMany iM_allBreaths rM_trial rM_words iM_fewestBreaths iM_orderMany iM_orderSum iM_leastOrder rM_often iM_setMany iM_someOf iM_allOf iM_allWeight iM_enoughWeight iM_worthSum iM_firstRest iM_leastDrawn), (arI rM_r kM_r 287 fM_r), (arI rM_told kM_told 90 fM_told), (arI rM_trial kM_trial 90 fM_trial), (arI rM_often kM_often 4 fM_often)] [(kM_r, .int), (kM_told, .int), (kM_trial, .int), (kM_often, .int)])) (va_Qi (fun (r : Int32) (_ : Nat) => True ∧ True) (fun (_ : Nat) (t : State) => ∃ (niM_thrown : Int32) (niM_trouble : Int32) (niM_setMany : Int32) (niM_someOf : Int32) (niM_allOf : Int32) (nfM_trial : Nat → Int32) (nfM_often : Nat → Int32), Bw dC dI (va_A [(oc7 oM iM_thrown rM_tape iM_taped iM_size iM_at iM_end iM_token iM_whole iM_nameSize iM_fault iM_place iM_trouble rM_letters iM_failed iM_hasCourt rM_r rM_fresh rM_told rM_read rM_st rM_undone rM_kept iM_undos iM_images rM_fresher iM_fresherSize iM_scale iM_night rM_heardRow rM_cutRow iM_breaths iM_cutMany iM_allBreaths rM_trial rM_words iM_fewestBreaths iM_orderMany iM_orderSum iM_leastOrder rM_often iM_setMany iM_someOf iM_allOf iM_allWeight iM_enoughWeight iM_worthSum iM_firstRest iM_leastDrawn), (arI rM_r kM_r 287 fM_r), (arI rM_told kM_told 90 fM_told), (arI rM_trial kM_trial 90 fM_trial), (arI rM_often kM_often 4 fM_often)] sz) [(oc7 oM niM_thrown rM_tape iM_taped iM_size iM_at iM_end iM_token iM_whole iM_nameSize iM_fault iM_place niM_trouble rM_letters iM_failed iM_hasCourt rM_r rM_fresh rM_told rM_read rM_st rM_undone rM_kept iM_undos iM_images rM_fresher iM_fresherSize iM_scale iM_night rM_heardRow rM_cutRow iM_breaths iM_cutMany iM_allBreaths rM_trial rM_words iM_fewestBreaths iM_orderMany iM_orderSum iM_leastOrder rM_often niM_setMany niM_someOf niM_allOf iM_allWeight iM_enoughWeight iM_worthSum iM_firstRest iM_leastDrawn), (arI rM_r kM_r 287 fM_r), (arI rM_told kM_told 90 fM_told), (arI rM_trial kM_trial 90 nfM_trial), (arI rM_often kM_often 4 nfM_often)] [(kM_r, .int), (kM_told, .int), (kM_trial, .int), (kM_often, .int)] t) (va_A [(oc7 oM iM_thrown rM_tape iM_taped iM_size iM_at iM_end iM_token iM_whole iM_nameSize iM_fault iM_place iM_trouble rM_letters iM_failed iM_hasCourt rM_r rM_fresh rM_told rM_read rM_st rM_undone rM_kept iM_undos iM_images rM_fresher iM_fresherSize iM_scale iM_night rM_heardRow rM_cutRow iM_breaths iM_cutMany iM_allBreaths rM_trial rM_words iM_fewestBreaths iM_orderMany iM_orderSum iM_leastOrder rM_often iM_setMany iM_someOf iM_allOf iM_allWeight iM_enoughWeight iM_worthSum iM_firstRest iM_leastDrawn), (arI rM_r kM_r 287 fM_r), (arI rM_told kM_told 90 fM_told), (arI rM_trial kM_trial 90 fM_trial), (arI rM_often kM_often 4 fM_often)] sz)) 0 0 (va_A [(oc7 oM iM_thrown rM_tape iM_taped iM_size iM_at iM_end iM_token iM_whole iM_nameSize iM_fault iM_place iM_trouble rM_letters iM_failed iM_hasCourt rM_r rM_fresh rM_told rM_read rM_st rM_undone rM_kept iM_undos iM_images rM_fresher iM_fresherSize iM_scale iM_night rM_heardRow rM_cutRow iM_breaths iM_cutMany iM_allBreaths rM_trial rM_words iM_fewestBreaths iM_orderMany iM_orderSum iM_leastOrder rM_often iM_setMany iM_someOf iM_allOf iM_allWeight iM_enoughWeight iM_worthSum iM_firstRest iM_leastDrawn), (arI rM_r kM_r 287 fM_r), (arI rM_told kM_told 90 fM_told), (arI rM_trial kM_trial 90 fM_trial), (arI rM_often kM_often 4 fM_often)] sz) := by
  refine Met.ofW (cc := cX7_surely) (maxL := 1) (ret := (some .int)) pnX7 rfl ?_
  intro p e s m args below meth c s₁ B hml hv
  obtain ⟨rfl, hsz, hP, hK, hD0, hE⟩ := hv
  have hx := B.exec
  have hb := B.bytes
  have hr := B.returns
  have hts : ∀ w ∈ wG, w.before ([.ref oM] : List Value).toArray s = true := fun w h => atoms_spec (ws := Cond.code yX7_surely cX7_surely 1 (some .int) :: wG) B.pre w (List.mem_cons_of_mem _ h)
  have hown : s.vm.findClass RX7 = some m.cls := own_of B.named rfl
  have hlocks := B.notSynchronized
  subst hsz
  have hD := hD0.self (sz := s.heap.size)
  generalize hAe : va_A [(oc7 oM iM_thrown rM_tape iM_taped iM_size iM_at iM_end iM_token iM_whole iM_nameSize iM_fault iM_place iM_trouble rM_letters iM_failed iM_hasCourt rM_r rM_fresh rM_told rM_read rM_st rM_undone rM_kept iM_undos iM_images rM_fresher iM_fresherSize iM_scale iM_night rM_heardRow rM_cutRow iM_breaths iM_cutMany iM_allBreaths rM_trial rM_words iM_fewestBreaths iM_orderMany iM_orderSum iM_leastOrder rM_often iM_setMany iM_someOf iM_allOf iM_allWeight iM_enoughWeight iM_worthSum iM_firstRest iM_leastDrawn), (arI rM_r kM_r 287 fM_r), (arI rM_told kM_told 90 fM_told), (arI rM_trial kM_trial 90 fM_trial), (arI rM_often kM_often 4 fM_often)] s.heap.size = A at hD hE ⊢
  have hA : ∀ q : Nat, s.heap.size ≤ q → A q := fun q h => by rw [← hAe]; exact Or.inr h
  have hS : va_S A s.heap s.heap [] := va_S.rf
  have hl := lv_entry ([.ref oM]) (n := 1) (Nat.le_of_ble_eq_true rfl)
  rw [lg_entry_eq]
  generalize (lg_sl ([.ref oM]) ++ List.replicate (1 - (lg_sl ([.ref oM])).length) Slot.unset).toArray = ls at hl ⊢
  have hl : lv_has ls 1 [(0, .ref oM)] := hl
  have s_slips := r_R.slips
  have s_nodes := r_R.nodes
  have s_uns := r_R.uns
  refine lv_aload_n hx hb dX7_surely_0 rfl (lv_at hl 0 rfl) ?_
  have hMs := ml_of hD [true, false, false, false, false] (wc := [(oc7 oM iM_thrown rM_tape iM_taped iM_size iM_at iM_end iM_token iM_whole iM_nameSize iM_fault iM_place iM_trouble rM_letters iM_failed iM_hasCourt rM_r rM_fresh rM_told rM_read rM_st rM_undone rM_kept iM_undos iM_images rM_fresher iM_fresherSize iM_scale iM_night rM_heardRow rM_cutRow iM_breaths iM_cutMany iM_allBreaths rM_trial rM_words iM_fewestBreaths iM_orderMany iM_orderSum iM_leastOrder rM_often iM_setMany iM_someOf iM_allOf iM_allWeight iM_enoughWeight iM_worthSum iM_firstRest iM_leastDrawn)]) rfl
  have hFc := va_freeM hD hS hA _ hMs
  refine va_callv (va_runV (As := []) (rest := []) ⟨hx, hb, hml, hown, hts⟩ (tX7_good l dC dI _ oM iM_thrown rM_tape iM_taped iM_size iM_at iM_end iM_token iM_whole iM_nameSize iM_fault iM_place iM_trouble rM_letters iM_failed iM_hasCourt rM_r rM_fresh rM_told rM_read rM_st rM_undone rM_kept iM_undos iM_images rM_fresher iM_fresherSize iM_scale iM_night rM_heardRow rM_cutRow iM_breaths iM_cutMany iM_allBreaths rM_trial rM_words iM_fewestBreaths iM_orderMany iM_orderSum iM_leastOrder rM_often iM_setMany iM_someOf iM_allOf iM_allWeight iM_enoughWeight iM_worthSum iM_firstRest iM_leastDrawn b_iM_taped b_iM_size b_iM_end b_iM_failed b_iM_hasCourt b_iM_undos b_iM_images b_iM_scale b_iM_breaths b_iM_cutMany) (cwV 0 hts (wd_V wd_388 wd_389 wd_390 wd_5 (wd_c wd_391)) rfl rfl rfl dv_yX7_good_0 ⟨Nat.le_of_ble_eq_true rfl, Nat.le_of_ble_eq_true rfl⟩) ⟨Pw.fb, recvX7 hK hP (q0 := 0) rfl, fun U hU hW => Pw.to (hP.ms _ hMs) (hD.ms _ hMs) (hK.ms [false, false, false, false] rfl) hE hS hFc hU hW⟩ rfl rfl hl.1 rfl (lv_room (Nat.le_of_ble_eq_true rfl)) dX7_surely_1 ⟨Nat.le_of_ble_eq_true rfl, Nat.le_of_ble_eq_true rfl⟩) hS (fun q _ h => hFc q h) hFc (fun u t H locs ht hvm hw hB hz1 hk1 hS => ?_)
  refine ex_2_3 hB (fun x_2820 x_2821 b_x_2820 b_x_2821 e_x_2820_0 hB => ?_)
  obtain ⟨hP, hD⟩ := Bw.goN (ws' := [(oc7 oM x_2820 rM_tape iM_taped iM_size iM_at iM_end iM_token iM_whole iM_nameSize iM_fault iM_place x_2821 rM_letters iM_failed iM_hasCourt rM_r rM_fresh rM_told rM_read rM_st rM_undone rM_kept iM_undos iM_images rM_fresher iM_fresherSize iM_scale iM_night rM_heardRow rM_cutRow iM_breaths iM_cutMany iM_allBreaths rM_trial rM_words iM_fewestBreaths iM_orderMany iM_orderSum iM_leastOrder rM_often iM_setMany iM_someOf iM_allOf iM_allWeight iM_enoughWeight iM_worthSum iM_firstRest iM_leastDrawn), (arI rM_r kM_r 287 fM_r), (arI rM_told kM_told 90 fM_told), (arI rM_trial kM_trial 90 fM_trial), (arI rM_often kM_often 4 fM_often)]) hB rfl ht hP hD _ hMs hk1 hFc rfl
  clear hz1 hk1 hvm ht hB hMs
  refine lv_aload_n hx hb dX7_surely_4 rfl (lv_at hl 0 rfl) ?_
  rcases (id r_C) with r_C0 | r_C1
  · skip
    refine va_get (D := (dC, dI)) (ci := 7) (v := .int iM_hasCourt) (C := RX7) (T := TX7) (N := 48) hx hb hts inX7 hown hK hP 0 rfl rfl 14 (by decide) (hts _ wd_385) (fun _ h9 => h9) rfl dX7_surely_5 ?_
    refine lv_if_ne (tgt := 17) hx hb dX7_surely_8 (by decide) (fun c_2822 => ?_) (fun c_2822 => ?_)
    · skip
      have gc_2822 := ti_ne c_2822 rfl kc_0
      exact (om_c9ba8b89 gc_2822 r_C0 b_iM_hasCourt.1).elim
    · skip
      have gc_2822 := ti_eq c_2822 rfl kc_0
      refine lv_aload_n hx hb dX7_surely_11 rfl (lv_at hl 0 rfl) ?_
      refine lv_iconst (v := 1) hx hb dX7_surely_12 (by decide) ?_
      have hMs := ml_of hD [true, false, false, false, false] (wc := [(oc7 oM x_2820 rM_tape iM_taped iM_size iM_at iM_end iM_token iM_whole iM_nameSize iM_fault iM_place x_2821 rM_letters iM_failed iM_hasCourt rM_r rM_fresh rM_told rM_read rM_st rM_undone rM_kept iM_undos iM_images rM_fresher iM_fresherSize iM_scale iM_night rM_heardRow rM_cutRow iM_breaths iM_cutMany iM_allBreaths rM_trial rM_words iM_fewestBreaths iM_orderMany iM_orderSum iM_leastOrder rM_often iM_setMany iM_someOf iM_allOf iM_allWeight iM_enoughWeight iM_worthSum iM_firstRest iM_leastDrawn)]) rfl
      have hFc := va_freeM hD hS hA _ hMs
      refine va_calli (va_runV (As := [.int 1]) (rest := []) ⟨hx, hb, hml, hown, hts⟩ (tX7_no l dC dI _ oM x_2820 rM_tape iM_taped iM_size iM_at iM_end iM_token iM_whole iM_nameSize iM_fault iM_place x_2821 rM_letters iM_failed iM_hasCourt rM_r rM_fresh rM_told rM_read rM_st rM_undone rM_kept iM_undos iM_images rM_fresher iM_fresherSize iM_scale iM_night rM_heardRow rM_cutRow iM_breaths iM_cutMany iM_allBreaths rM_trial rM_words iM_fewestBreaths iM_orderMany iM_orderSum iM_leastOrder rM_often iM_setMany iM_someOf iM_allOf iM_allWeight iM_enoughWeight iM_worthSum iM_firstRest iM_leastDrawn 1 b_iM_taped b_iM_size b_iM_end b_iM_failed b_iM_hasCourt b_iM_undos b_iM_images b_iM_scale b_iM_breaths b_iM_cutMany) (cwV 1 hts (wd_V wd_396 wd_397 wd_398 wd_5 (wd_c wd_399)) rfl rfl rfl dv_yX7_no_1 ⟨Nat.le_of_ble_eq_true rfl, Nat.le_of_ble_eq_true rfl⟩) ⟨Pw.fb, recvX7 hK hP (q0 := 0) rfl, fun U hU hW => Pw.to (hP.ms _ hMs) (hD.ms _ hMs) (hK.ms [false, false, false, false] rfl) hE hS hFc hU hW⟩ rfl rfl hl.1 rfl (lv_room (Nat.le_of_ble_eq_true rfl)) dX7_surely_13 ⟨Nat.le_of_ble_eq_true rfl, Nat.le_of_ble_eq_true rfl⟩) hS (fun q _ h => hFc q h) hFc (fun r u t H locs ht hvm hw hB hz1 hk1 hS => ?_)
      have hru9 := hw.2
      have hw := hw.1
      refine ex_1_1 hB (fun x_2823 e_x_2823_0 hB => ?_)
      obtain ⟨hP, hD⟩ := Bw.goN (ws' := [(oc7 oM x_2820 rM_tape iM_taped iM_size iM_at iM_end iM_token iM_whole iM_nameSize iM_fault iM_place x_2823 rM_letters iM_failed iM_hasCourt rM_r rM_fresh rM_told rM_read rM_st rM_undone rM_kept iM_undos iM_images rM_fresher iM_fresherSize iM_scale iM_night rM_heardRow rM_cutRow iM_breaths iM_cutMany iM_allBreaths rM_trial rM_words iM_fewestBreaths iM_orderMany iM_orderSum iM_leastOrder rM_often iM_setMany iM_someOf iM_allOf iM_allWeight iM_enoughWeight iM_worthSum iM_firstRest iM_leastDrawn), (arI rM_r kM_r 287 fM_r), (arI rM_told kM_told 90 fM_told), (arI rM_trial kM_trial 90 fM_trial), (arI rM_often kM_often 4 fM_often)]) hB rfl ht hP hD _ hMs hk1 hFc rfl
      clear hz1 hk1 hvm ht hB hMs
      obtain ⟨x_2824, rfl⟩ : ∃ z, z = r := ⟨_, rfl⟩
      exact wq_i hx hb hr 0 ⟨trivial, trivial⟩ (fun t ht hW => ⟨x_2820, x_2823, iM_setMany, iM_someOf, iM_allOf, fM_trial, fM_often, Bw.to hP hD hK ht hW⟩) hS dX7_surely_16 hlocks
  · skip
    refine va_get (D := (dC, dI)) (ci := 7) (v := .int iM_hasCourt) (C := RX7) (T := TX7) (N := 48) hx hb hts inX7 hown hK hP 0 rfl rfl 14 (by decide) (hts _ wd_385) (fun _ h9 => h9) rfl dX7_surely_5 ?_
    refine lv_if_ne (tgt := 17) hx hb dX7_surely_8 (by decide) (fun c_2825 => ?_) (fun c_2825 => ?_)
    · skip
      have gc_2825 := ti_ne c_2825 rfl kc_0
      refine lv_aload_n hx hb dX7_surely_17 rfl (lv_at hl 0 rfl) ?_
      refine lv_iconst (v := (-1)) hx hb dX7_surely_18 (by decide) ?_
      have hFc := va_freeI hD hS hA
      refine va_calli (va_runV (As := [.int (-1)]) (rest := []) ⟨hx, hb, hml, hown, hts⟩ (tX7_seekSets l dC dI _ oM x_2820 rM_tape iM_taped iM_size iM_at iM_end iM_token iM_whole iM_nameSize iM_fault iM_place x_2821 rM_letters iM_failed iM_hasCourt rM_r fM_r kM_r rM_fresh rM_told fM_told kM_told rM_read rM_st rM_undone rM_kept iM_undos iM_images rM_fresher iM_fresherSize iM_scale iM_night rM_heardRow rM_cutRow iM_breaths iM_cutMany iM_allBreaths rM_trial fM_trial kM_trial rM_words iM_fewestBreaths iM_orderMany iM_orderSum iM_leastOrder rM_often fM_often kM_often iM_setMany iM_someOf iM_allOf iM_allWeight iM_enoughWeight iM_worthSum iM_firstRest iM_leastDrawn (-1) b_iM_taped b_iM_size b_iM_end b_iM_failed b_iM_hasCourt b_iM_undos b_iM_images b_iM_scale b_iM_breaths b_iM_cutMany (by assumption) (by assumption) (by assumption) ⟨r_C1.2.1, r_C1.2.2⟩) (cwV 1 hts (wd_V wd_1182 wd_1183 wd_1184 wd_5 (wd_c wd_1185)) rfl rfl rfl dv_yX7_seekSets_1 ⟨Nat.le_of_ble_eq_true rfl, Nat.le_of_ble_eq_true rfl⟩) ⟨Pw.fb, recvX7 hK hP (q0 := 0) rfl, fun U hU hW => Pw.to hP hD hK hE hS hFc hU hW⟩ rfl rfl hl.1 rfl (lv_room (Nat.le_of_ble_eq_true rfl)) dX7_surely_19 ⟨Nat.le_of_ble_eq_true rfl, Nat.le_of_ble_eq_true rfl⟩) hS (fun q _ h => hFc q h) hFc (fun r u t H locs ht hvm hw hB hz1 hk1 hS => ?_)
      refine ex_5_0 hB (fun x_2826 x_2827 x_2828 f_2829 f_2830 hB => ?_)
      obtain ⟨hP, hD⟩ := Bw.goA (ws' := [(oc7 oM x_2820 rM_tape iM_taped iM_size iM_at iM_end iM_token iM_whole iM_nameSize iM_fault iM_place x_2821 rM_letters iM_failed iM_hasCourt rM_r rM_fresh rM_told rM_read rM_st rM_undone rM_kept iM_undos iM_images rM_fresher iM_fresherSize iM_scale iM_night rM_heardRow rM_cutRow iM_breaths iM_cutMany iM_allBreaths rM_trial rM_words iM_fewestBreaths iM_orderMany iM_orderSum iM_leastOrder rM_often x_2826 x_2827 x_2828 iM_allWeight iM_enoughWeight iM_worthSum iM_firstRest iM_leastDrawn), (arI rM_r kM_r 287 fM_r), (arI rM_told kM_told 90 fM_told), (arI rM_trial kM_trial 90 f_2829), (arI rM_often kM_often 4 f_2830)]) hB rfl ht hFc rfl
      clear hz1 hk1 hvm ht hB
      obtain ⟨x_2831, rfl⟩ : ∃ z, z = r := ⟨_, rfl⟩
      refine lv_pop hx hb dX7_surely_22 rfl ?_
      refine lv_aload_n hx hb dX7_surely_23 rfl (lv_at hl 0 rfl) ?_
      refine va_get (D := (dC, dI)) (ci := 7) (v := .int x_2828) (C := RX7) (T := TX7) (N := 48) hx hb hts inX7 hown hK hP 0 rfl rfl 42 (by decide) (hts _ wd_1187) (fun _ h9 => h9) rfl dX7_surely_24 ?_
      exact wq_i hx hb hr 0 ⟨trivial, trivial⟩ (fun t ht hW => ⟨x_2820, x_2821, x_2826, x_2827, x_2828, f_2829, f_2830, Bw.to hP hD hK ht hW⟩) hS dX7_surely_27 hlocks
    · skip
      have gc_2825 := ti_eq c_2825 rfl kc_0
      refine lv_aload_n hx hb dX7_surely_11 rfl (lv_at hl 0 rfl) ?_
      refine lv_iconst (v := 1) hx hb dX7_surely_12 (by decide) ?_
      have hMs := ml_of hD [true, false, false, false, false] (wc := [(oc7 oM x_2820 rM_tape iM_taped iM_size iM_at iM_end iM_token iM_whole iM_nameSize iM_fault iM_place x_2821 rM_letters iM_failed iM_hasCourt rM_r rM_fresh rM_told rM_read rM_st rM_undone rM_kept iM_undos iM_images rM_fresher iM_fresherSize iM_scale iM_night rM_heardRow rM_cutRow iM_breaths iM_cutMany iM_allBreaths rM_trial rM_words iM_fewestBreaths iM_orderMany iM_orderSum iM_leastOrder rM_often iM_setMany iM_someOf iM_allOf iM_allWeight iM_enoughWeight iM_worthSum iM_firstRest iM_leastDrawn)]) rfl
      have hFc := va_freeM hD hS hA _ hMs
      refine va_calli (va_runV (As := [.int 1]) (rest := []) ⟨hx, hb, hml, hown, hts⟩ (tX7_no l dC dI _ oM x_2820 rM_tape iM_taped iM_size iM_at iM_end iM_token iM_whole iM_nameSize iM_fault iM_place x_2821 rM_letters iM_failed iM_hasCourt rM_r rM_fresh rM_told rM_read rM_st rM_undone rM_kept iM_undos iM_images rM_fresher iM_fresherSize iM_scale iM_night rM_heardRow rM_cutRow iM_breaths iM_cutMany iM_allBreaths rM_trial rM_words iM_fewestBreaths iM_orderMany iM_orderSum iM_leastOrder rM_often iM_setMany iM_someOf iM_allOf iM_allWeight iM_enoughWeight iM_worthSum iM_firstRest iM_leastDrawn 1 b_iM_taped b_iM_size b_iM_end b_iM_failed b_iM_hasCourt b_iM_undos b_iM_images b_iM_scale b_iM_breaths b_iM_cutMany) (cwV 1 hts (wd_V wd_396 wd_397 wd_398 wd_5 (wd_c wd_399)) rfl rfl rfl dv_yX7_no_1 ⟨Nat.le_of_ble_eq_true rfl, Nat.le_of_ble_eq_true rfl⟩) ⟨Pw.fb, recvX7 hK hP (q0 := 0) rfl, fun U hU hW => Pw.to (hP.ms _ hMs) (hD.ms _ hMs) (hK.ms [false, false, false, false] rfl) hE hS hFc hU hW⟩ rfl rfl hl.1 rfl (lv_room (Nat.le_of_ble_eq_true rfl)) dX7_surely_13 ⟨Nat.le_of_ble_eq_true rfl, Nat.le_of_ble_eq_true rfl⟩) hS (fun q _ h => hFc q h) hFc (fun r u t H locs ht hvm hw hB hz1 hk1 hS => ?_)
      have hru9 := hw.2
      have hw := hw.1
      refine ex_1_1 hB (fun x_2832 e_x_2832_0 hB => ?_)
      obtain ⟨hP, hD⟩ := Bw.goN (ws' := [(oc7 oM x_2820 rM_tape iM_taped iM_size iM_at iM_end iM_token iM_whole iM_nameSize iM_fault iM_place x_2832 rM_letters iM_failed iM_hasCourt rM_r rM_fresh rM_told rM_read rM_st rM_undone rM_kept iM_undos iM_images rM_fresher iM_fresherSize iM_scale iM_night rM_heardRow rM_cutRow iM_breaths iM_cutMany iM_allBreaths rM_trial rM_words iM_fewestBreaths iM_orderMany iM_orderSum iM_leastOrder rM_often iM_setMany iM_someOf iM_allOf iM_allWeight iM_enoughWeight iM_worthSum iM_firstRest iM_leastDrawn), (arI rM_r kM_r 287 fM_r), (arI rM_told kM_told 90 fM_told), (arI rM_trial kM_trial 90 fM_trial), (arI rM_often kM_often 4 fM_often)]) hB rfl ht hP hD _ hMs hk1 hFc rfl
      clear hz1 hk1 hvm ht hB hMs
      obtain ⟨x_2833, rfl⟩ : ∃ z, z = r := ⟨_, rfl⟩
      exact wq_i hx hb hr 0 ⟨trivial, trivial⟩ (fun t ht hW => ⟨x_2820, x_2832, iM_setMany, iM_someOf, iM_allOf, fM_trial, fM_often, Bw.to hP hD hK ht hW⟩) hS dX7_surely_16 hlocks
set_option maxHeartbeats 4000000 in
set_option maxRecDepth 100000 in
theorem tX7_ask (l : Launch) (dC : Nat → ClassId) (dI : Nat → Nat → Nat) (sz : Nat) (oM : Nat) (iM_thrown : Int32) (rM_tape : Nat) (iM_taped : Int32) (iM_size : Int32) (iM_at : Int32) (iM_end : Int32) (iM_token : Int32) (iM_whole : Int32) (iM_nameSize : Int32) (iM_fault : Int32) (iM_place : Int32) (iM_trouble : Int32) (rM_letters : Nat) (iM_failed : Int32) (iM_hasCourt : Int32) (rM_r : Nat) (fM_r : Nat → Int32) (kM_r : ClassId) (rM_fresh : Nat) (rM_told : Nat) (fM_told : Nat → Int32) (kM_told : ClassId) (rM_read : Nat) (rM_st : Nat) (rM_undone : Nat) (rM_kept : Nat) (iM_undos : Int32) (iM_images : Int32) (rM_fresher : Nat) (iM_fresherSize : Int32) (iM_scale : Int32) (iM_night : Int32) (rM_heardRow : Nat) (rM_cutRow : Nat) (iM_breaths : Int32) (iM_cutMany : Int32) (iM_allBreaths : Int32) (rM_trial : Nat) (fM_trial : Nat → Int32) (kM_trial : ClassId) (rM_words : Nat) (iM_fewestBreaths : Int32) (iM_orderMany : Int32) (iM_orderSum : Int32) (iM_leastOrder : Int32) (rM_often : Nat) (fM_often : Nat → Int32) (kM_often : ClassId) (iM_setMany : Int32) (iM_someOf : Int32) (iM_allOf : Int32) (iM_allWeight : Int64) (iM_enoughWeight : Int64) (iM_worthSum : Int64) (iM_firstRest : Int32) (iM_leastDrawn : Int32) (b_iM_taped : 0 ≤ iM_taped.toInt ∧ iM_taped.toInt ≤ 900) (b_iM_size : 0 ≤ iM_size.toInt ∧ iM_size.toInt ≤ 900) (b_iM_end : 0 ≤ iM_end.toInt ∧ iM_end.toInt ≤ 900) (b_iM_failed : 0 ≤ iM_failed.toInt ∧ iM_failed.toInt ≤ 1) (b_iM_hasCourt : 0 ≤ iM_hasCourt.toInt ∧ iM_hasCourt.toInt ≤ 1) (b_iM_undos : 0 ≤ iM_undos.toInt ∧ iM_undos.toInt ≤ 16) (b_iM_images : 0 ≤ iM_images.toInt ∧ iM_images.toInt ≤ 3) (b_iM_scale : 1 ≤ iM_scale.toInt ∧ iM_scale.toInt ≤ 1296) (b_iM_breaths : 0 ≤ iM_breaths.toInt ∧ iM_breaths.toInt ≤ 399) (b_iM_cutMany : 0 ≤ iM_cutMany.toInt ∧ iM_cutMany.toInt ≤ 399) (r_R : ROk fM_r) (r_C : iM_hasCourt.toInt ≤ 0 ∨ (1 ≤ (fM_r 1).toInt ∧ 0 ≤ (fM_r 6).toInt ∧ (fM_r 6).toInt < (fM_r 1).toInt)) (r_told : RowOk fM_r fM_told)  : Met l yX7_ask (Cond.code yX7_ask cX7_ask 1 (some .int) :: wG) ({ frames := 25, cells := 0, slots := 0, locals := 652 }) (va_Pc [.ref oM] (Pw dC dI sz [(oc7 oM iM_thrown rM_tape iM_taped iM_size iM_at iM_end iM_token iM_whole iM_nameSize iM_fault iM_place iM_trouble rM_letters iM_failed iM_hasCourt rM_r rM_fresh rM_told rM_read rM_st rM_undone rM_kept iM_undos iM_images rM_fresher iM_fresherSize iM_scale iM_night rM_heardRow rM_cutRow iM_breaths iM_cutMany iM_allBreaths rM_trial rM_words iM_fewestBreaths iM_orderMany iM_orderSum iM_leastOrder rM_often iM_setMany iM_someOf iM_allOf iM_allWeight iM_enoughWeight iM_worthSum iM_firstRest iM_leastDrawn), (arI rM_r kM_r 287 fM_r), (arI rM_told kM_told 90 fM_told), (arI rM_trial kM_trial 90 fM_trial), (arI rM_often kM_often 4 fM_often)] [(kM_r, .int), (kM_told, .int), (kM_trial, .int), (kM_often, .int)])) (va_Qi (fun (r : Int32) (_ : Nat) => True ∧ True) (fun (_ : Nat) (t : State) => ∃ (niM_thrown : Int32) (niM_trouble : Int32) (niM_setMany : Int32) (niM_someOf : Int32) (niM_allOf : Int32) (nfM_trial : Nat → Int32) (nfM_often : Nat → Int32), Bw dC dI (va_A [(oc7 oM iM_thrown rM_tape iM_taped iM_size iM_at iM_end iM_token iM_whole iM_nameSize iM_fault iM_place iM_trouble rM_letters iM_failed iM_hasCourt rM_r rM_fresh rM_told rM_read rM_st rM_undone rM_kept iM_undos iM_images rM_fresher iM_fresherSize iM_scale iM_night rM_heardRow rM_cutRow iM_breaths iM_cutMany iM_allBreaths rM_trial rM_words iM_fewestBreaths iM_orderMany iM_orderSum iM_leastOrder rM_often iM_setMany iM_someOf iM_allOf iM_allWeight iM_enoughWeight iM_worthSum iM_firstRest iM_leastDrawn), (arI rM_r kM_r 287 fM_r), (arI rM_told kM_told 90 fM_told), (arI rM_trial kM_trial 90 fM_trial), (arI rM_often kM_often 4 fM_often)] sz) [(oc7 oM niM_thrown rM_tape iM_taped iM_size iM_at iM_end iM_token iM_whole iM_nameSize iM_fault iM_place niM_trouble rM_letters iM_failed iM_hasCourt rM_r rM_fresh rM_told rM_read rM_st rM_undone rM_kept iM_undos iM_images rM_fresher iM_fresherSize iM_scale iM_night rM_heardRow rM_cutRow iM_breaths iM_cutMany iM_allBreaths rM_trial rM_words iM_fewestBreaths iM_orderMany iM_orderSum iM_leastOrder rM_often niM_setMany niM_someOf niM_allOf iM_allWeight iM_enoughWeight iM_worthSum iM_firstRest iM_leastDrawn), (arI rM_r kM_r 287 fM_r), (arI rM_told kM_told 90 fM_told), (arI rM_trial kM_trial 90 nfM_trial), (arI rM_often kM_often 4 nfM_often)] [(kM_r, .int), (kM_told, .int), (kM_trial, .int), (kM_often, .int)] t) (va_A [(oc7 oM iM_thrown rM_tape iM_taped iM_size iM_at iM_end iM_token iM_whole iM_nameSize iM_fault iM_place iM_trouble rM_letters iM_failed iM_hasCourt rM_r rM_fresh rM_told rM_read rM_st rM_undone rM_kept iM_undos iM_images rM_fresher iM_fresherSize iM_scale iM_night rM_heardRow rM_cutRow iM_breaths iM_cutMany iM_allBreaths rM_trial rM_words iM_fewestBreaths iM_orderMany iM_orderSum iM_leastOrder rM_often iM_setMany iM_someOf iM_allOf iM_allWeight iM_enoughWeight iM_worthSum iM_firstRest iM_leastDrawn), (arI rM_r kM_r 287 fM_r), (arI rM_told kM_told 90 fM_told), (arI rM_trial kM_trial 90 fM_trial), (arI rM_often kM_often 4 fM_often)] sz)) 0 0 (va_A [(oc7 oM iM_thrown rM_tape iM_taped iM_size iM_at iM_end iM_token iM_whole iM_nameSize iM_fault iM_place iM_trouble rM_letters iM_failed iM_hasCourt rM_r rM_fresh rM_told rM_read rM_st rM_undone rM_kept iM_undos iM_images rM_fresher iM_fresherSize iM_scale iM_night rM_heardRow rM_cutRow iM_breaths iM_cutMany iM_allBreaths rM_trial rM_words iM_fewestBreaths iM_orderMany iM_orderSum iM_leastOrder rM_often iM_setMany iM_someOf iM_allOf iM_allWeight iM_enoughWeight iM_worthSum iM_firstRest iM_leastDrawn), (arI rM_r kM_r 287 fM_r), (arI rM_told kM_told 90 fM_told), (arI rM_trial kM_trial 90 fM_trial), (arI rM_often kM_often 4 fM_often)] sz) := by
  refine Met.ofW (cc := cX7_ask) (maxL := 1) (ret := (some .int)) pnX7 rfl ?_
  intro p e s m args below meth c s₁ B hml hv
  obtain ⟨rfl, hsz, hP, hK, hD0, hE⟩ := hv
  have hx := B.exec
  have hb := B.bytes
  have hr := B.returns
  have hts : ∀ w ∈ wG, w.before ([.ref oM] : List Value).toArray s = true := fun w h => atoms_spec (ws := Cond.code yX7_ask cX7_ask 1 (some .int) :: wG) B.pre w (List.mem_cons_of_mem _ h)
  have hown : s.vm.findClass RX7 = some m.cls := own_of B.named rfl
  have hlocks := B.notSynchronized
  subst hsz
  have hD := hD0.self (sz := s.heap.size)
  generalize hAe : va_A [(oc7 oM iM_thrown rM_tape iM_taped iM_size iM_at iM_end iM_token iM_whole iM_nameSize iM_fault iM_place iM_trouble rM_letters iM_failed iM_hasCourt rM_r rM_fresh rM_told rM_read rM_st rM_undone rM_kept iM_undos iM_images rM_fresher iM_fresherSize iM_scale iM_night rM_heardRow rM_cutRow iM_breaths iM_cutMany iM_allBreaths rM_trial rM_words iM_fewestBreaths iM_orderMany iM_orderSum iM_leastOrder rM_often iM_setMany iM_someOf iM_allOf iM_allWeight iM_enoughWeight iM_worthSum iM_firstRest iM_leastDrawn), (arI rM_r kM_r 287 fM_r), (arI rM_told kM_told 90 fM_told), (arI rM_trial kM_trial 90 fM_trial), (arI rM_often kM_often 4 fM_often)] s.heap.size = A at hD hE ⊢
  have hA : ∀ q : Nat, s.heap.size ≤ q → A q := fun q h => by rw [← hAe]; exact Or.inr h
  have hS : va_S A s.heap s.heap [] := va_S.rf
  have hl := lv_entry ([.ref oM]) (n := 1) (Nat.le_of_ble_eq_true rfl)
  rw [lg_entry_eq]
  generalize (lg_sl ([.ref oM]) ++ List.replicate (1 - (lg_sl ([.ref oM])).length) Slot.unset).toArray = ls at hl ⊢
  have hl : lv_has ls 1 [(0, .ref oM)] := hl
  have s_slips := r_R.slips
  have s_nodes := r_R.nodes
  have s_uns := r_R.uns
  refine lv_aload_n hx hb dX7_ask_0 rfl (lv_at hl 0 rfl) ?_
  have hMs := ml_of hD [true, false, false, false, false] (wc := [(oc7 oM iM_thrown rM_tape iM_taped iM_size iM_at iM_end iM_token iM_whole iM_nameSize iM_fault iM_place iM_trouble rM_letters iM_failed iM_hasCourt rM_r rM_fresh rM_told rM_read rM_st rM_undone rM_kept iM_undos iM_images rM_fresher iM_fresherSize iM_scale iM_night rM_heardRow rM_cutRow iM_breaths iM_cutMany iM_allBreaths rM_trial rM_words iM_fewestBreaths iM_orderMany iM_orderSum iM_leastOrder rM_often iM_setMany iM_someOf iM_allOf iM_allWeight iM_enoughWeight iM_worthSum iM_firstRest iM_leastDrawn)]) rfl
  have hFc := va_freeM hD hS hA _ hMs
  refine va_callv (va_runV (As := []) (rest := []) ⟨hx, hb, hml, hown, hts⟩ (tX7_good l dC dI _ oM iM_thrown rM_tape iM_taped iM_size iM_at iM_end iM_token iM_whole iM_nameSize iM_fault iM_place iM_trouble rM_letters iM_failed iM_hasCourt rM_r rM_fresh rM_told rM_read rM_st rM_undone rM_kept iM_undos iM_images rM_fresher iM_fresherSize iM_scale iM_night rM_heardRow rM_cutRow iM_breaths iM_cutMany iM_allBreaths rM_trial rM_words iM_fewestBreaths iM_orderMany iM_orderSum iM_leastOrder rM_often iM_setMany iM_someOf iM_allOf iM_allWeight iM_enoughWeight iM_worthSum iM_firstRest iM_leastDrawn b_iM_taped b_iM_size b_iM_end b_iM_failed b_iM_hasCourt b_iM_undos b_iM_images b_iM_scale b_iM_breaths b_iM_cutMany) (cwV 0 hts (wd_V wd_388 wd_389 wd_390 wd_5 (wd_c wd_391)) rfl rfl rfl dv_yX7_good_0 ⟨Nat.le_of_ble_eq_true rfl, Nat.le_of_ble_eq_true rfl⟩) ⟨Pw.fb, recvX7 hK hP (q0 := 0) rfl, fun U hU hW => Pw.to (hP.ms _ hMs) (hD.ms _ hMs) (hK.ms [false, false, false, false] rfl) hE hS hFc hU hW⟩ rfl rfl hl.1 rfl (lv_room (Nat.le_of_ble_eq_true rfl)) dX7_ask_1 ⟨Nat.le_of_ble_eq_true rfl, Nat.le_of_ble_eq_true rfl⟩) hS (fun q _ h => hFc q h) hFc (fun u t H locs ht hvm hw hB hz1 hk1 hS => ?_)
  refine ex_2_3 hB (fun x_2848 x_2849 b_x_2848 b_x_2849 e_x_2848_0 hB => ?_)
  obtain ⟨hP, hD⟩ := Bw.goN (ws' := [(oc7 oM x_2848 rM_tape iM_taped iM_size iM_at iM_end iM_token iM_whole iM_nameSize iM_fault iM_place x_2849 rM_letters iM_failed iM_hasCourt rM_r rM_fresh rM_told rM_read rM_st rM_undone rM_kept iM_undos iM_images rM_fresher iM_fresherSize iM_scale iM_night rM_heardRow rM_cutRow iM_breaths iM_cutMany iM_allBreaths rM_trial rM_words iM_fewestBreaths iM_orderMany iM_orderSum iM_leastOrder rM_often iM_setMany iM_someOf iM_allOf iM_allWeight iM_enoughWeight iM_worthSum iM_firstRest iM_leastDrawn), (arI rM_r kM_r 287 fM_r), (arI rM_told kM_told 90 fM_told), (arI rM_trial kM_trial 90 fM_trial), (arI rM_often kM_often 4 fM_often)]) hB rfl ht hP hD _ hMs hk1 hFc rfl
  clear hz1 hk1 hvm ht hB hMs
  refine lv_aload_n hx hb dX7_ask_4 rfl (lv_at hl 0 rfl) ?_
  rcases (id r_C) with r_C0 | r_C1
  · skip
    refine va_get (D := (dC, dI)) (ci := 7) (v := .int iM_hasCourt) (C := RX7) (T := TX7) (N := 48) hx hb hts inX7 hown hK hP 0 rfl rfl 14 (by decide) (hts _ wd_385) (fun _ h9 => h9) rfl dX7_ask_5 ?_
    refine lv_if_eq (tgt := 18) hx hb dX7_ask_8 (by decide) (fun c_2850 => ?_) (fun c_2850 => ?_)
    · skip
      have gc_2850 := ti_eq c_2850 rfl kc_0
      refine lv_aload_n hx hb dX7_ask_18 rfl (lv_at hl 0 rfl) ?_
      refine lv_iconst (v := 1) hx hb dX7_ask_19 (by decide) ?_
      have hMs := ml_of hD [true, false, false, false, false] (wc := [(oc7 oM x_2848 rM_tape iM_taped iM_size iM_at iM_end iM_token iM_whole iM_nameSize iM_fault iM_place x_2849 rM_letters iM_failed iM_hasCourt rM_r rM_fresh rM_told rM_read rM_st rM_undone rM_kept iM_undos iM_images rM_fresher iM_fresherSize iM_scale iM_night rM_heardRow rM_cutRow iM_breaths iM_cutMany iM_allBreaths rM_trial rM_words iM_fewestBreaths iM_orderMany iM_orderSum iM_leastOrder rM_often iM_setMany iM_someOf iM_allOf iM_allWeight iM_enoughWeight iM_worthSum iM_firstRest iM_leastDrawn)]) rfl
      have hFc := va_freeM hD hS hA _ hMs
      refine va_calli (va_runV (As := [.int 1]) (rest := []) ⟨hx, hb, hml, hown, hts⟩ (tX7_no l dC dI _ oM x_2848 rM_tape iM_taped iM_size iM_at iM_end iM_token iM_whole iM_nameSize iM_fault iM_place x_2849 rM_letters iM_failed iM_hasCourt rM_r rM_fresh rM_told rM_read rM_st rM_undone rM_kept iM_undos iM_images rM_fresher iM_fresherSize iM_scale iM_night rM_heardRow rM_cutRow iM_breaths iM_cutMany iM_allBreaths rM_trial rM_words iM_fewestBreaths iM_orderMany iM_orderSum iM_leastOrder rM_often iM_setMany iM_someOf iM_allOf iM_allWeight iM_enoughWeight iM_worthSum iM_firstRest iM_leastDrawn 1 b_iM_taped b_iM_size b_iM_end b_iM_failed b_iM_hasCourt b_iM_undos b_iM_images b_iM_scale b_iM_breaths b_iM_cutMany) (cwV 1 hts (wd_V wd_396 wd_397 wd_398 wd_5 (wd_c wd_399)) rfl rfl rfl dv_yX7_no_1 ⟨Nat.le_of_ble_eq_true rfl, Nat.le_of_ble_eq_true rfl⟩) ⟨Pw.fb, recvX7 hK hP (q0 := 0) rfl, fun U hU hW => Pw.to (hP.ms _ hMs) (hD.ms _ hMs) (hK.ms [false, false, false, false] rfl) hE hS hFc hU hW⟩ rfl rfl hl.1 rfl (lv_room (Nat.le_of_ble_eq_true rfl)) dX7_ask_20 ⟨Nat.le_of_ble_eq_true rfl, Nat.le_of_ble_eq_true rfl⟩) hS (fun q _ h => hFc q h) hFc (fun r u t H locs ht hvm hw hB hz1 hk1 hS => ?_)
      have hru9 := hw.2
      have hw := hw.1
      refine ex_1_1 hB (fun x_2851 e_x_2851_0 hB => ?_)
      obtain ⟨hP, hD⟩ := Bw.goN (ws' := [(oc7 oM x_2848 rM_tape iM_taped iM_size iM_at iM_end iM_token iM_whole iM_nameSize iM_fault iM_place x_2851 rM_letters iM_failed iM_hasCourt rM_r rM_fresh rM_told rM_read rM_st rM_undone rM_kept iM_undos iM_images rM_fresher iM_fresherSize iM_scale iM_night rM_heardRow rM_cutRow iM_breaths iM_cutMany iM_allBreaths rM_trial rM_words iM_fewestBreaths iM_orderMany iM_orderSum iM_leastOrder rM_often iM_setMany iM_someOf iM_allOf iM_allWeight iM_enoughWeight iM_worthSum iM_firstRest iM_leastDrawn), (arI rM_r kM_r 287 fM_r), (arI rM_told kM_told 90 fM_told), (arI rM_trial kM_trial 90 fM_trial), (arI rM_often kM_often 4 fM_often)]) hB rfl ht hP hD _ hMs hk1 hFc rfl
      clear hz1 hk1 hvm ht hB hMs
      obtain ⟨x_2852, rfl⟩ : ∃ z, z = r := ⟨_, rfl⟩
      exact wq_i hx hb hr 0 ⟨trivial, trivial⟩ (fun t ht hW => ⟨x_2848, x_2851, iM_setMany, iM_someOf, iM_allOf, fM_trial, fM_often, Bw.to hP hD hK ht hW⟩) hS dX7_ask_23 hlocks
    · skip
      have gc_2850 := ti_ne c_2850 rfl kc_0
      exact (om_c9ba8b89 gc_2850 r_C0 b_iM_hasCourt.1).elim
  · skip
    refine va_get (D := (dC, dI)) (ci := 7) (v := .int iM_hasCourt) (C := RX7) (T := TX7) (N := 48) hx hb hts inX7 hown hK hP 0 rfl rfl 14 (by decide) (hts _ wd_385) (fun _ h9 => h9) rfl dX7_ask_5 ?_
    refine lv_if_eq (tgt := 18) hx hb dX7_ask_8 (by decide) (fun c_2853 => ?_) (fun c_2853 => ?_)
    · skip
      have gc_2853 := ti_eq c_2853 rfl kc_0
      refine lv_aload_n hx hb dX7_ask_18 rfl (lv_at hl 0 rfl) ?_
      refine lv_iconst (v := 1) hx hb dX7_ask_19 (by decide) ?_
      have hMs := ml_of hD [true, false, false, false, false] (wc := [(oc7 oM x_2848 rM_tape iM_taped iM_size iM_at iM_end iM_token iM_whole iM_nameSize iM_fault iM_place x_2849 rM_letters iM_failed iM_hasCourt rM_r rM_fresh rM_told rM_read rM_st rM_undone rM_kept iM_undos iM_images rM_fresher iM_fresherSize iM_scale iM_night rM_heardRow rM_cutRow iM_breaths iM_cutMany iM_allBreaths rM_trial rM_words iM_fewestBreaths iM_orderMany iM_orderSum iM_leastOrder rM_often iM_setMany iM_someOf iM_allOf iM_allWeight iM_enoughWeight iM_worthSum iM_firstRest iM_leastDrawn)]) rfl
      have hFc := va_freeM hD hS hA _ hMs
      refine va_calli (va_runV (As := [.int 1]) (rest := []) ⟨hx, hb, hml, hown, hts⟩ (tX7_no l dC dI _ oM x_2848 rM_tape iM_taped iM_size iM_at iM_end iM_token iM_whole iM_nameSize iM_fault iM_place x_2849 rM_letters iM_failed iM_hasCourt rM_r rM_fresh rM_told rM_read rM_st rM_undone rM_kept iM_undos iM_images rM_fresher iM_fresherSize iM_scale iM_night rM_heardRow rM_cutRow iM_breaths iM_cutMany iM_allBreaths rM_trial rM_words iM_fewestBreaths iM_orderMany iM_orderSum iM_leastOrder rM_often iM_setMany iM_someOf iM_allOf iM_allWeight iM_enoughWeight iM_worthSum iM_firstRest iM_leastDrawn 1 b_iM_taped b_iM_size b_iM_end b_iM_failed b_iM_hasCourt b_iM_undos b_iM_images b_iM_scale b_iM_breaths b_iM_cutMany) (cwV 1 hts (wd_V wd_396 wd_397 wd_398 wd_5 (wd_c wd_399)) rfl rfl rfl dv_yX7_no_1 ⟨Nat.le_of_ble_eq_true rfl, Nat.le_of_ble_eq_true rfl⟩) ⟨Pw.fb, recvX7 hK hP (q0 := 0) rfl, fun U hU hW => Pw.to (hP.ms _ hMs) (hD.ms _ hMs) (hK.ms [false, false, false, false] rfl) hE hS hFc hU hW⟩ rfl rfl hl.1 rfl (lv_room (Nat.le_of_ble_eq_true rfl)) dX7_ask_20 ⟨Nat.le_of_ble_eq_true rfl, Nat.le_of_ble_eq_true rfl⟩) hS (fun q _ h => hFc q h) hFc (fun r u t H locs ht hvm hw hB hz1 hk1 hS => ?_)
      have hru9 := hw.2
      have hw := hw.1
      refine ex_1_1 hB (fun x_2854 e_x_2854_0 hB => ?_)
      obtain ⟨hP, hD⟩ := Bw.goN (ws' := [(oc7 oM x_2848 rM_tape iM_taped iM_size iM_at iM_end iM_token iM_whole iM_nameSize iM_fault iM_place x_2854 rM_letters iM_failed iM_hasCourt rM_r rM_fresh rM_told rM_read rM_st rM_undone rM_kept iM_undos iM_images rM_fresher iM_fresherSize iM_scale iM_night rM_heardRow rM_cutRow iM_breaths iM_cutMany iM_allBreaths rM_trial rM_words iM_fewestBreaths iM_orderMany iM_orderSum iM_leastOrder rM_often iM_setMany iM_someOf iM_allOf iM_allWeight iM_enoughWeight iM_worthSum iM_firstRest iM_leastDrawn), (arI rM_r kM_r 287 fM_r), (arI rM_told kM_told 90 fM_told), (arI rM_trial kM_trial 90 fM_trial), (arI rM_often kM_often 4 fM_often)]) hB rfl ht hP hD _ hMs hk1 hFc rfl
      clear hz1 hk1 hvm ht hB hMs
      obtain ⟨x_2855, rfl⟩ : ∃ z, z = r := ⟨_, rfl⟩
      exact wq_i hx hb hr 0 ⟨trivial, trivial⟩ (fun t ht hW => ⟨x_2848, x_2854, iM_setMany, iM_someOf, iM_allOf, fM_trial, fM_often, Bw.to hP hD hK ht hW⟩) hS dX7_ask_23 hlocks
    · skip
      have gc_2853 := ti_ne c_2853 rfl kc_0
      refine lv_aload_n hx hb dX7_ask_11 rfl (lv_at hl 0 rfl) ?_
      have hFc := va_freeI hD hS hA
      refine va_calli (va_runV (As := []) (rest := []) ⟨hx, hb, hml, hown, hts⟩ (tX7_askedFirst l dC dI _ oM x_2848 rM_tape iM_taped iM_size iM_at iM_end iM_token iM_whole iM_nameSize iM_fault iM_place x_2849 rM_letters iM_failed iM_hasCourt rM_r fM_r kM_r rM_fresh rM_told fM_told kM_told rM_read rM_st rM_undone rM_kept iM_undos iM_images rM_fresher iM_fresherSize iM_scale iM_night rM_heardRow rM_cutRow iM_breaths iM_cutMany iM_allBreaths rM_trial fM_trial kM_trial rM_words iM_fewestBreaths iM_orderMany iM_orderSum iM_leastOrder rM_often fM_often kM_often iM_setMany iM_someOf iM_allOf iM_allWeight iM_enoughWeight iM_worthSum iM_firstRest iM_leastDrawn b_iM_taped b_iM_size b_iM_end b_iM_failed b_iM_hasCourt b_iM_undos b_iM_images b_iM_scale b_iM_breaths b_iM_cutMany (by assumption) (by assumption) (by assumption) ⟨r_C1.2.1, r_C1.2.2⟩) (cwV 0 hts (wd_V wd_1238 wd_1239 wd_1240 wd_5 (wd_c wd_1241)) rfl rfl rfl dv_yX7_askedFirst_0 ⟨Nat.le_of_ble_eq_true rfl, Nat.le_of_ble_eq_true rfl⟩) ⟨Pw.fb, recvX7 hK hP (q0 := 0) rfl, fun U hU hW => Pw.to hP hD hK hE hS hFc hU hW⟩ rfl rfl hl.1 rfl (lv_room (Nat.le_of_ble_eq_true rfl)) dX7_ask_12 ⟨Nat.le_of_ble_eq_true rfl, Nat.le_of_ble_eq_true rfl⟩) hS (fun q _ h => hFc q h) hFc (fun r u t H locs ht hvm hw hB hz1 hk1 hS => ?_)
      refine ex_5_0 hB (fun x_2856 x_2857 x_2858 f_2859 f_2860 hB => ?_)
      obtain ⟨hP, hD⟩ := Bw.goA (ws' := [(oc7 oM x_2848 rM_tape iM_taped iM_size iM_at iM_end iM_token iM_whole iM_nameSize iM_fault iM_place x_2849 rM_letters iM_failed iM_hasCourt rM_r rM_fresh rM_told rM_read rM_st rM_undone rM_kept iM_undos iM_images rM_fresher iM_fresherSize iM_scale iM_night rM_heardRow rM_cutRow iM_breaths iM_cutMany iM_allBreaths rM_trial rM_words iM_fewestBreaths iM_orderMany iM_orderSum iM_leastOrder rM_often x_2856 x_2857 x_2858 iM_allWeight iM_enoughWeight iM_worthSum iM_firstRest iM_leastDrawn), (arI rM_r kM_r 287 fM_r), (arI rM_told kM_told 90 fM_told), (arI rM_trial kM_trial 90 f_2859), (arI rM_often kM_often 4 f_2860)]) hB rfl ht hFc rfl
      clear hz1 hk1 hvm ht hB
      obtain ⟨x_2861, rfl⟩ : ∃ z, z = r := ⟨_, rfl⟩
      have ux_2861 := hw.2
      refine lv_goto (tgt := 23) hx hb dX7_ask_15 (by decide) ?_
      exact wq_i hx hb hr 0 ⟨trivial, trivial⟩ (fun t ht hW => ⟨x_2848, x_2849, x_2856, x_2857, x_2858, f_2859, f_2860, Bw.to hP hD hK ht hW⟩) hS dX7_ask_23 hlocks
set_option maxHeartbeats 4000000 in
set_option maxRecDepth 100000 in
theorem tX7_askLeaves (l : Launch) (dC : Nat → ClassId) (dI : Nat → Nat → Nat) (sz : Nat) (oM : Nat) (iM_thrown : Int32) (rM_tape : Nat) (iM_taped : Int32) (iM_size : Int32) (iM_at : Int32) (iM_end : Int32) (iM_token : Int32) (iM_whole : Int32) (iM_nameSize : Int32) (iM_fault : Int32) (iM_place : Int32) (iM_trouble : Int32) (rM_letters : Nat) (iM_failed : Int32) (iM_hasCourt : Int32) (rM_r : Nat) (fM_r : Nat → Int32) (kM_r : ClassId) (rM_fresh : Nat) (rM_told : Nat) (fM_told : Nat → Int32) (kM_told : ClassId) (rM_read : Nat) (rM_st : Nat) (rM_undone : Nat) (rM_kept : Nat) (iM_undos : Int32) (iM_images : Int32) (rM_fresher : Nat) (iM_fresherSize : Int32) (iM_scale : Int32) (iM_night : Int32) (rM_heardRow : Nat) (rM_cutRow : Nat) (iM_breaths : Int32) (iM_cutMany : Int32) (iM_allBreaths : Int32) (rM_trial : Nat) (fM_trial : Nat → Int32) (kM_trial : ClassId) (rM_words : Nat) (iM_fewestBreaths : Int32) (iM_orderMany : Int32) (iM_orderSum : Int32) (iM_leastOrder : Int32) (rM_often : Nat) (fM_often : Nat → Int32) (kM_often : ClassId) (iM_setMany : Int32) (iM_someOf : Int32) (iM_allOf : Int32) (iM_allWeight : Int64) (iM_enoughWeight : Int64) (iM_worthSum : Int64) (iM_firstRest : Int32) (iM_leastDrawn : Int32) (b_iM_taped : 0 ≤ iM_taped.toInt ∧ iM_taped.toInt ≤ 900) (b_iM_size : 0 ≤ iM_size.toInt ∧ iM_size.toInt ≤ 900) (b_iM_end : 0 ≤ iM_end.toInt ∧ iM_end.toInt ≤ 900) (b_iM_failed : 0 ≤ iM_failed.toInt ∧ iM_failed.toInt ≤ 1) (b_iM_hasCourt : 0 ≤ iM_hasCourt.toInt ∧ iM_hasCourt.toInt ≤ 1) (b_iM_undos : 0 ≤ iM_undos.toInt ∧ iM_undos.toInt ≤ 16) (b_iM_images : 0 ≤ iM_images.toInt ∧ iM_images.toInt ≤ 3) (b_iM_scale : 1 ≤ iM_scale.toInt ∧ iM_scale.toInt ≤ 1296) (b_iM_breaths : 0 ≤ iM_breaths.toInt ∧ iM_breaths.toInt ≤ 399) (b_iM_cutMany : 0 ≤ iM_cutMany.toInt ∧ iM_cutMany.toInt ≤ 399) (r_R : ROk fM_r) (r_C : iM_hasCourt.toInt ≤ 0 ∨ (1 ≤ (fM_r 1).toInt ∧ 0 ≤ (fM_r 6).toInt ∧ (fM_r 6).toInt < (fM_r 1).toInt)) (r_told : RowOk fM_r fM_told)  : Met l yX7_askLeaves (Cond.code yX7_askLeaves cX7_askLeaves 2 (some .int) :: wG) ({ frames := 25, cells := 0, slots := 0, locals := 652 }) (va_Pc [.ref oM] (Pw dC dI sz [(oc7 oM iM_thrown rM_tape iM_taped iM_size iM_at iM_end iM_token iM_whole iM_nameSize iM_fault iM_place iM_trouble rM_letters iM_failed iM_hasCourt rM_r rM_fresh rM_told rM_read rM_st rM_undone rM_kept iM_undos iM_images rM_fresher iM_fresherSize iM_scale iM_night rM_heardRow rM_cutRow iM_breaths iM_cutMany iM_allBreaths rM_trial rM_words iM_fewestBreaths iM_orderMany iM_orderSum iM_leastOrder rM_often iM_setMany iM_someOf iM_allOf iM_allWeight iM_enoughWeight iM_worthSum iM_firstRest iM_leastDrawn), (arI rM_r kM_r 287 fM_r), (arI rM_told kM_told 90 fM_told), (arI rM_trial kM_trial 90 fM_trial), (arI rM_often kM_often 4 fM_often)] [(kM_r, .int), (kM_told, .int), (kM_trial, .int), (kM_often, .int)])) (va_Qi (fun (r : Int32) (_ : Nat) => True ∧ True) (fun (_ : Nat) (t : State) => ∃ (niM_thrown : Int32) (niM_trouble : Int32) (niM_setMany : Int32) (niM_someOf : Int32) (niM_allOf : Int32) (nfM_trial : Nat → Int32) (nfM_often : Nat → Int32), Bw dC dI (va_A [(oc7 oM iM_thrown rM_tape iM_taped iM_size iM_at iM_end iM_token iM_whole iM_nameSize iM_fault iM_place iM_trouble rM_letters iM_failed iM_hasCourt rM_r rM_fresh rM_told rM_read rM_st rM_undone rM_kept iM_undos iM_images rM_fresher iM_fresherSize iM_scale iM_night rM_heardRow rM_cutRow iM_breaths iM_cutMany iM_allBreaths rM_trial rM_words iM_fewestBreaths iM_orderMany iM_orderSum iM_leastOrder rM_often iM_setMany iM_someOf iM_allOf iM_allWeight iM_enoughWeight iM_worthSum iM_firstRest iM_leastDrawn), (arI rM_r kM_r 287 fM_r), (arI rM_told kM_told 90 fM_told), (arI rM_trial kM_trial 90 fM_trial), (arI rM_often kM_often 4 fM_often)] sz) [(oc7 oM niM_thrown rM_tape iM_taped iM_size iM_at iM_end iM_token iM_whole iM_nameSize iM_fault iM_place niM_trouble rM_letters iM_failed iM_hasCourt rM_r rM_fresh rM_told rM_read rM_st rM_undone rM_kept iM_undos iM_images rM_fresher iM_fresherSize iM_scale iM_night rM_heardRow rM_cutRow iM_breaths iM_cutMany iM_allBreaths rM_trial rM_words iM_fewestBreaths iM_orderMany iM_orderSum iM_leastOrder rM_often niM_setMany niM_someOf niM_allOf iM_allWeight iM_enoughWeight iM_worthSum iM_firstRest iM_leastDrawn), (arI rM_r kM_r 287 fM_r), (arI rM_told kM_told 90 fM_told), (arI rM_trial kM_trial 90 nfM_trial), (arI rM_often kM_often 4 nfM_often)] [(kM_r, .int), (kM_told, .int), (kM_trial, .int), (kM_often, .int)] t) (va_A [(oc7 oM iM_thrown rM_tape iM_taped iM_size iM_at iM_end iM_token iM_whole iM_nameSize iM_fault iM_place iM_trouble rM_letters iM_failed iM_hasCourt rM_r rM_fresh rM_told rM_read rM_st rM_undone rM_kept iM_undos iM_images rM_fresher iM_fresherSize iM_scale iM_night rM_heardRow rM_cutRow iM_breaths iM_cutMany iM_allBreaths rM_trial rM_words iM_fewestBreaths iM_orderMany iM_orderSum iM_leastOrder rM_often iM_setMany iM_someOf iM_allOf iM_allWeight iM_enoughWeight iM_worthSum iM_firstRest iM_leastDrawn), (arI rM_r kM_r 287 fM_r), (arI rM_told kM_told 90 fM_told), (arI rM_trial kM_trial 90 fM_trial), (arI rM_often kM_often 4 fM_often)] sz)) 0 0 (va_A [(oc7 oM iM_thrown rM_tape iM_taped iM_size iM_at iM_end iM_token iM_whole iM_nameSize iM_fault iM_place iM_trouble rM_letters iM_failed iM_hasCourt rM_r rM_fresh rM_told rM_read rM_st rM_undone rM_kept iM_undos iM_images rM_fresher iM_fresherSize iM_scale iM_night rM_heardRow rM_cutRow iM_breaths iM_cutMany iM_allBreaths rM_trial rM_words iM_fewestBreaths iM_orderMany iM_orderSum iM_leastOrder rM_often iM_setMany iM_someOf iM_allOf iM_allWeight iM_enoughWeight iM_worthSum iM_firstRest iM_leastDrawn), (arI rM_r kM_r 287 fM_r), (arI rM_told kM_told 90 fM_told), (arI rM_trial kM_trial 90 fM_trial), (arI rM_often kM_often 4 fM_often)] sz) := by
  refine Met.ofW (cc := cX7_askLeaves) (maxL := 2) (ret := (some .int)) pnX7 rfl ?_
  intro p e s m args below meth c s₁ B hml hv
  obtain ⟨rfl, hsz, hP, hK, hD0, hE⟩ := hv
  have hx := B.exec
  have hb := B.bytes
  have hr := B.returns
  have hts : ∀ w ∈ wG, w.before ([.ref oM] : List Value).toArray s = true := fun w h => atoms_spec (ws := Cond.code yX7_askLeaves cX7_askLeaves 2 (some .int) :: wG) B.pre w (List.mem_cons_of_mem _ h)
  have hown : s.vm.findClass RX7 = some m.cls := own_of B.named rfl
  have hlocks := B.notSynchronized
  subst hsz
  have hD := hD0.self (sz := s.heap.size)
  generalize hAe : va_A [(oc7 oM iM_thrown rM_tape iM_taped iM_size iM_at iM_end iM_token iM_whole iM_nameSize iM_fault iM_place iM_trouble rM_letters iM_failed iM_hasCourt rM_r rM_fresh rM_told rM_read rM_st rM_undone rM_kept iM_undos iM_images rM_fresher iM_fresherSize iM_scale iM_night rM_heardRow rM_cutRow iM_breaths iM_cutMany iM_allBreaths rM_trial rM_words iM_fewestBreaths iM_orderMany iM_orderSum iM_leastOrder rM_often iM_setMany iM_someOf iM_allOf iM_allWeight iM_enoughWeight iM_worthSum iM_firstRest iM_leastDrawn), (arI rM_r kM_r 287 fM_r), (arI rM_told kM_told 90 fM_told), (arI rM_trial kM_trial 90 fM_trial), (arI rM_often kM_often 4 fM_often)] s.heap.size = A at hD hE ⊢
  have hA : ∀ q : Nat, s.heap.size ≤ q → A q := fun q h => by rw [← hAe]; exact Or.inr h
  have hS : va_S A s.heap s.heap [] := va_S.rf
  have hl := lv_entry ([.ref oM]) (n := 2) (Nat.le_of_ble_eq_true rfl)
  rw [lg_entry_eq]
  generalize (lg_sl ([.ref oM]) ++ List.replicate (2 - (lg_sl ([.ref oM])).length) Slot.unset).toArray = ls at hl ⊢
  have hl : lv_has ls 2 [(0, .ref oM)] := hl
  have s_slips := r_R.slips
  have s_nodes := r_R.nodes
  have s_uns := r_R.uns
  refine lv_aload_n hx hb dX7_askLeaves_0 rfl (lv_at hl 0 rfl) ?_
  have hMs := ml_of hD [true, false, false, false, false] (wc := [(oc7 oM iM_thrown rM_tape iM_taped iM_size iM_at iM_end iM_token iM_whole iM_nameSize iM_fault iM_place iM_trouble rM_letters iM_failed iM_hasCourt rM_r rM_fresh rM_told rM_read rM_st rM_undone rM_kept iM_undos iM_images rM_fresher iM_fresherSize iM_scale iM_night rM_heardRow rM_cutRow iM_breaths iM_cutMany iM_allBreaths rM_trial rM_words iM_fewestBreaths iM_orderMany iM_orderSum iM_leastOrder rM_often iM_setMany iM_someOf iM_allOf iM_allWeight iM_enoughWeight iM_worthSum iM_firstRest iM_leastDrawn)]) rfl
  have hFc := va_freeM hD hS hA _ hMs
  refine va_callv (va_runV (As := []) (rest := []) ⟨hx, hb, hml, hown, hts⟩ (tX7_good l dC dI _ oM iM_thrown rM_tape iM_taped iM_size iM_at iM_end iM_token iM_whole iM_nameSize iM_fault iM_place iM_trouble rM_letters iM_failed iM_hasCourt rM_r rM_fresh rM_told rM_read rM_st rM_undone rM_kept iM_undos iM_images rM_fresher iM_fresherSize iM_scale iM_night rM_heardRow rM_cutRow iM_breaths iM_cutMany iM_allBreaths rM_trial rM_words iM_fewestBreaths iM_orderMany iM_orderSum iM_leastOrder rM_often iM_setMany iM_someOf iM_allOf iM_allWeight iM_enoughWeight iM_worthSum iM_firstRest iM_leastDrawn b_iM_taped b_iM_size b_iM_end b_iM_failed b_iM_hasCourt b_iM_undos b_iM_images b_iM_scale b_iM_breaths b_iM_cutMany) (cwV 0 hts (wd_V wd_388 wd_389 wd_390 wd_5 (wd_c wd_391)) rfl rfl rfl dv_yX7_good_0 ⟨Nat.le_of_ble_eq_true rfl, Nat.le_of_ble_eq_true rfl⟩) ⟨Pw.fb, recvX7 hK hP (q0 := 0) rfl, fun U hU hW => Pw.to (hP.ms _ hMs) (hD.ms _ hMs) (hK.ms [false, false, false, false] rfl) hE hS hFc hU hW⟩ rfl rfl hl.1 rfl (lv_room (Nat.le_of_ble_eq_true rfl)) dX7_askLeaves_1 ⟨Nat.le_of_ble_eq_true rfl, Nat.le_of_ble_eq_true rfl⟩) hS (fun q _ h => hFc q h) hFc (fun u t H locs ht hvm hw hB hz1 hk1 hS => ?_)
  refine ex_2_3 hB (fun x_2878 x_2879 b_x_2878 b_x_2879 e_x_2878_0 hB => ?_)
  obtain ⟨hP, hD⟩ := Bw.goN (ws' := [(oc7 oM x_2878 rM_tape iM_taped iM_size iM_at iM_end iM_token iM_whole iM_nameSize iM_fault iM_place x_2879 rM_letters iM_failed iM_hasCourt rM_r rM_fresh rM_told rM_read rM_st rM_undone rM_kept iM_undos iM_images rM_fresher iM_fresherSize iM_scale iM_night rM_heardRow rM_cutRow iM_breaths iM_cutMany iM_allBreaths rM_trial rM_words iM_fewestBreaths iM_orderMany iM_orderSum iM_leastOrder rM_often iM_setMany iM_someOf iM_allOf iM_allWeight iM_enoughWeight iM_worthSum iM_firstRest iM_leastDrawn), (arI rM_r kM_r 287 fM_r), (arI rM_told kM_told 90 fM_told), (arI rM_trial kM_trial 90 fM_trial), (arI rM_often kM_often 4 fM_often)]) hB rfl ht hP hD _ hMs hk1 hFc rfl
  clear hz1 hk1 hvm ht hB hMs
  refine lv_aload_n hx hb dX7_askLeaves_4 rfl (lv_at hl 0 rfl) ?_
  rcases (id r_C) with r_C0 | r_C1
  · skip
    refine va_get (D := (dC, dI)) (ci := 7) (v := .int iM_hasCourt) (C := RX7) (T := TX7) (N := 48) hx hb hts inX7 hown hK hP 0 rfl rfl 14 (by decide) (hts _ wd_385) (fun _ h9 => h9) rfl dX7_askLeaves_5 ?_
    refine lv_if_ne (tgt := 17) hx hb dX7_askLeaves_8 (by decide) (fun c_2880 => ?_) (fun c_2880 => ?_)
    · skip
      have gc_2880 := ti_ne c_2880 rfl kc_0
      exact (om_c9ba8b89 gc_2880 r_C0 b_iM_hasCourt.1).elim
    · skip
      have gc_2880 := ti_eq c_2880 rfl kc_0
      refine lv_aload_n hx hb dX7_askLeaves_11 rfl (lv_at hl 0 rfl) ?_
      refine lv_iconst (v := 1) hx hb dX7_askLeaves_12 (by decide) ?_
      have hMs := ml_of hD [true, false, false, false, false] (wc := [(oc7 oM x_2878 rM_tape iM_taped iM_size iM_at iM_end iM_token iM_whole iM_nameSize iM_fault iM_place x_2879 rM_letters iM_failed iM_hasCourt rM_r rM_fresh rM_told rM_read rM_st rM_undone rM_kept iM_undos iM_images rM_fresher iM_fresherSize iM_scale iM_night rM_heardRow rM_cutRow iM_breaths iM_cutMany iM_allBreaths rM_trial rM_words iM_fewestBreaths iM_orderMany iM_orderSum iM_leastOrder rM_often iM_setMany iM_someOf iM_allOf iM_allWeight iM_enoughWeight iM_worthSum iM_firstRest iM_leastDrawn)]) rfl
      have hFc := va_freeM hD hS hA _ hMs
      refine va_calli (va_runV (As := [.int 1]) (rest := []) ⟨hx, hb, hml, hown, hts⟩ (tX7_no l dC dI _ oM x_2878 rM_tape iM_taped iM_size iM_at iM_end iM_token iM_whole iM_nameSize iM_fault iM_place x_2879 rM_letters iM_failed iM_hasCourt rM_r rM_fresh rM_told rM_read rM_st rM_undone rM_kept iM_undos iM_images rM_fresher iM_fresherSize iM_scale iM_night rM_heardRow rM_cutRow iM_breaths iM_cutMany iM_allBreaths rM_trial rM_words iM_fewestBreaths iM_orderMany iM_orderSum iM_leastOrder rM_often iM_setMany iM_someOf iM_allOf iM_allWeight iM_enoughWeight iM_worthSum iM_firstRest iM_leastDrawn 1 b_iM_taped b_iM_size b_iM_end b_iM_failed b_iM_hasCourt b_iM_undos b_iM_images b_iM_scale b_iM_breaths b_iM_cutMany) (cwV 1 hts (wd_V wd_396 wd_397 wd_398 wd_5 (wd_c wd_399)) rfl rfl rfl dv_yX7_no_1 ⟨Nat.le_of_ble_eq_true rfl, Nat.le_of_ble_eq_true rfl⟩) ⟨Pw.fb, recvX7 hK hP (q0 := 0) rfl, fun U hU hW => Pw.to (hP.ms _ hMs) (hD.ms _ hMs) (hK.ms [false, false, false, false] rfl) hE hS hFc hU hW⟩ rfl rfl hl.1 rfl (lv_room (Nat.le_of_ble_eq_true rfl)) dX7_askLeaves_13 ⟨Nat.le_of_ble_eq_true rfl, Nat.le_of_ble_eq_true rfl⟩) hS (fun q _ h => hFc q h) hFc (fun r u t H locs ht hvm hw hB hz1 hk1 hS => ?_)
      have hru9 := hw.2
      have hw := hw.1
      refine ex_1_1 hB (fun x_2881 e_x_2881_0 hB => ?_)
      obtain ⟨hP, hD⟩ := Bw.goN (ws' := [(oc7 oM x_2878 rM_tape iM_taped iM_size iM_at iM_end iM_token iM_whole iM_nameSize iM_fault iM_place x_2881 rM_letters iM_failed iM_hasCourt rM_r rM_fresh rM_told rM_read rM_st rM_undone rM_kept iM_undos iM_images rM_fresher iM_fresherSize iM_scale iM_night rM_heardRow rM_cutRow iM_breaths iM_cutMany iM_allBreaths rM_trial rM_words iM_fewestBreaths iM_orderMany iM_orderSum iM_leastOrder rM_often iM_setMany iM_someOf iM_allOf iM_allWeight iM_enoughWeight iM_worthSum iM_firstRest iM_leastDrawn), (arI rM_r kM_r 287 fM_r), (arI rM_told kM_told 90 fM_told), (arI rM_trial kM_trial 90 fM_trial), (arI rM_often kM_often 4 fM_often)]) hB rfl ht hP hD _ hMs hk1 hFc rfl
      clear hz1 hk1 hvm ht hB hMs
      obtain ⟨x_2882, rfl⟩ : ∃ z, z = r := ⟨_, rfl⟩
      exact wq_i hx hb hr 0 ⟨trivial, trivial⟩ (fun t ht hW => ⟨x_2878, x_2881, iM_setMany, iM_someOf, iM_allOf, fM_trial, fM_often, Bw.to hP hD hK ht hW⟩) hS dX7_askLeaves_16 hlocks
  · skip
    refine va_get (D := (dC, dI)) (ci := 7) (v := .int iM_hasCourt) (C := RX7) (T := TX7) (N := 48) hx hb hts inX7 hown hK hP 0 rfl rfl 14 (by decide) (hts _ wd_385) (fun _ h9 => h9) rfl dX7_askLeaves_5 ?_
    refine lv_if_ne (tgt := 17) hx hb dX7_askLeaves_8 (by decide) (fun c_2883 => ?_) (fun c_2883 => ?_)
    · skip
      have gc_2883 := ti_ne c_2883 rfl kc_0
      refine lv_aload_n hx hb dX7_askLeaves_17 rfl (lv_at hl 0 rfl) ?_
      have hFc := va_freeI hD hS hA
      refine va_calli (va_runV (As := []) (rest := []) ⟨hx, hb, hml, hown, hts⟩ (tX7_askedFirst l dC dI _ oM x_2878 rM_tape iM_taped iM_size iM_at iM_end iM_token iM_whole iM_nameSize iM_fault iM_place x_2879 rM_letters iM_failed iM_hasCourt rM_r fM_r kM_r rM_fresh rM_told fM_told kM_told rM_read rM_st rM_undone rM_kept iM_undos iM_images rM_fresher iM_fresherSize iM_scale iM_night rM_heardRow rM_cutRow iM_breaths iM_cutMany iM_allBreaths rM_trial fM_trial kM_trial rM_words iM_fewestBreaths iM_orderMany iM_orderSum iM_leastOrder rM_often fM_often kM_often iM_setMany iM_someOf iM_allOf iM_allWeight iM_enoughWeight iM_worthSum iM_firstRest iM_leastDrawn b_iM_taped b_iM_size b_iM_end b_iM_failed b_iM_hasCourt b_iM_undos b_iM_images b_iM_scale b_iM_breaths b_iM_cutMany (by assumption) (by assumption) (by assumption) ⟨r_C1.2.1, r_C1.2.2⟩) (cwV 0 hts (wd_V wd_1238 wd_1239 wd_1240 wd_5 (wd_c wd_1241)) rfl rfl rfl dv_yX7_askedFirst_0 ⟨Nat.le_of_ble_eq_true rfl, Nat.le_of_ble_eq_true rfl⟩) ⟨Pw.fb, recvX7 hK hP (q0 := 0) rfl, fun U hU hW => Pw.to hP hD hK hE hS hFc hU hW⟩ rfl rfl hl.1 rfl (lv_room (Nat.le_of_ble_eq_true rfl)) dX7_askLeaves_18 ⟨Nat.le_of_ble_eq_true rfl, Nat.le_of_ble_eq_true rfl⟩) hS (fun q _ h => hFc q h) hFc (fun r u t H locs ht hvm hw hB hz1 hk1 hS => ?_)
      refine ex_5_0 hB (fun x_2884 x_2885 x_2886 f_2887 f_2888 hB => ?_)
      obtain ⟨hP, hD⟩ := Bw.goA (ws' := [(oc7 oM x_2878 rM_tape iM_taped iM_size iM_at iM_end iM_token iM_whole iM_nameSize iM_fault iM_place x_2879 rM_letters iM_failed iM_hasCourt rM_r rM_fresh rM_told rM_read rM_st rM_undone rM_kept iM_undos iM_images rM_fresher iM_fresherSize iM_scale iM_night rM_heardRow rM_cutRow iM_breaths iM_cutMany iM_allBreaths rM_trial rM_words iM_fewestBreaths iM_orderMany iM_orderSum iM_leastOrder rM_often x_2884 x_2885 x_2886 iM_allWeight iM_enoughWeight iM_worthSum iM_firstRest iM_leastDrawn), (arI rM_r kM_r 287 fM_r), (arI rM_told kM_told 90 fM_told), (arI rM_trial kM_trial 90 f_2887), (arI rM_often kM_often 4 f_2888)]) hB rfl ht hFc rfl
      clear hz1 hk1 hvm ht hB
      obtain ⟨x_2889, rfl⟩ : ∃ z, z = r := ⟨_, rfl⟩
      have ux_2889 := hw.2
      refine lv_istore_n (lv' := [(1, .int x_2889), (0, .ref oM)]) hx hb dX7_askLeaves_21 rfl hl (by decide) rfl (fun ls hl => ?_)
      refine lv_iload_n hx hb dX7_askLeaves_22 rfl (lv_at hl 0 rfl) ?_
      refine lv_if_ge (tgt := 31) hx hb dX7_askLeaves_23 (by decide) (fun c_2890 => ?_) (fun c_2890 => ?_)
      · skip
        have gc_2890 := ti_le c_2890 kc_0 rfl
        refine lv_aload_n hx hb dX7_askLeaves_31 rfl (lv_at hl 1 rfl) ?_
        refine lv_iload_n hx hb dX7_askLeaves_32 rfl (lv_at hl 0 rfl) ?_
        have hMs := ml_of hD [true, false, false, false, true] (wc := [(oc7 oM x_2878 rM_tape iM_taped iM_size iM_at iM_end iM_token iM_whole iM_nameSize iM_fault iM_place x_2879 rM_letters iM_failed iM_hasCourt rM_r rM_fresh rM_told rM_read rM_st rM_undone rM_kept iM_undos iM_images rM_fresher iM_fresherSize iM_scale iM_night rM_heardRow rM_cutRow iM_breaths iM_cutMany iM_allBreaths rM_trial rM_words iM_fewestBreaths iM_orderMany iM_orderSum iM_leastOrder rM_often x_2884 x_2885 x_2886 iM_allWeight iM_enoughWeight iM_worthSum iM_firstRest iM_leastDrawn), (arI rM_often kM_often 4 f_2888)]) rfl
        have hFc := va_freeM hD hS hA _ hMs
        refine va_calli (va_runV (As := [.int x_2889]) (rest := []) ⟨hx, hb, hml, hown, hts⟩ (tX7_leavesOf l dC dI _ oM x_2878 rM_tape iM_taped iM_size iM_at iM_end iM_token iM_whole iM_nameSize iM_fault iM_place x_2879 rM_letters iM_failed iM_hasCourt rM_r rM_fresh rM_told rM_read rM_st rM_undone rM_kept iM_undos iM_images rM_fresher iM_fresherSize iM_scale iM_night rM_heardRow rM_cutRow iM_breaths iM_cutMany iM_allBreaths rM_trial rM_words iM_fewestBreaths iM_orderMany iM_orderSum iM_leastOrder rM_often f_2888 kM_often x_2884 x_2885 x_2886 iM_allWeight iM_enoughWeight iM_worthSum iM_firstRest iM_leastDrawn x_2889 b_iM_taped b_iM_size b_iM_end b_iM_failed b_iM_hasCourt b_iM_undos b_iM_images b_iM_scale b_iM_breaths b_iM_cutMany ⟨gc_2890, ux_2889.2⟩) (cwV 1 hts (wd_V wd_1242 wd_1243 wd_1244 wd_5 (wd_c wd_1245)) rfl rfl rfl dv_yX7_leavesOf_1 ⟨Nat.le_of_ble_eq_true rfl, Nat.le_of_ble_eq_true rfl⟩) ⟨Pw.fb, recvX7 hK hP (q0 := 0) rfl, fun U hU hW => Pw.to (hP.ms _ hMs) (hD.ms _ hMs) (hK.ms [false, false, false, true] rfl) hE hS hFc hU hW⟩ rfl rfl hl.1 rfl (lv_room (Nat.le_of_ble_eq_true rfl)) dX7_askLeaves_33 ⟨Nat.le_of_ble_eq_true rfl, Nat.le_of_ble_eq_true rfl⟩) hS (fun q _ h => hFc q h) hFc (fun r u t H locs ht hvm hw hB hz1 hk1 hS => ?_)
        obtain ⟨hP, hD⟩ := Bw.goN (ws' := [(oc7 oM x_2878 rM_tape iM_taped iM_size iM_at iM_end iM_token iM_whole iM_nameSize iM_fault iM_place x_2879 rM_letters iM_failed iM_hasCourt rM_r rM_fresh rM_told rM_read rM_st rM_undone rM_kept iM_undos iM_images rM_fresher iM_fresherSize iM_scale iM_night rM_heardRow rM_cutRow iM_breaths iM_cutMany iM_allBreaths rM_trial rM_words iM_fewestBreaths iM_orderMany iM_orderSum iM_leastOrder rM_often x_2884 x_2885 x_2886 iM_allWeight iM_enoughWeight iM_worthSum iM_firstRest iM_leastDrawn), (arI rM_r kM_r 287 fM_r), (arI rM_told kM_told 90 fM_told), (arI rM_trial kM_trial 90 f_2887), (arI rM_often kM_often 4 f_2888)]) hB rfl ht hP hD _ hMs hk1 hFc rfl
        clear hz1 hk1 hvm ht hB hMs
        obtain ⟨x_2891, rfl⟩ : ∃ z, z = r := ⟨_, rfl⟩
        exact wq_i hx hb hr 0 ⟨trivial, trivial⟩ (fun t ht hW => ⟨x_2878, x_2879, x_2884, x_2885, x_2886, f_2887, f_2888, Bw.to hP hD hK ht hW⟩) hS dX7_askLeaves_36 hlocks
      · skip
        have gc_2890 := ti_nle c_2890 kc_0 rfl
        refine lv_bipush (v := (-2)) hx hb dX7_askLeaves_26 (by decide) ?_
        refine lv_goto (tgt := 36) hx hb dX7_askLeaves_28 (by decide) ?_
        exact wq_i hx hb hr 0 ⟨trivial, trivial⟩ (fun t ht hW => ⟨x_2878, x_2879, x_2884, x_2885, x_2886, f_2887, f_2888, Bw.to hP hD hK ht hW⟩) hS dX7_askLeaves_36 hlocks
    · skip
      have gc_2883 := ti_eq c_2883 rfl kc_0
      refine lv_aload_n hx hb dX7_askLeaves_11 rfl (lv_at hl 0 rfl) ?_
      refine lv_iconst (v := 1) hx hb dX7_askLeaves_12 (by decide) ?_
      have hMs := ml_of hD [true, false, false, false, false] (wc := [(oc7 oM x_2878 rM_tape iM_taped iM_size iM_at iM_end iM_token iM_whole iM_nameSize iM_fault iM_place x_2879 rM_letters iM_failed iM_hasCourt rM_r rM_fresh rM_told rM_read rM_st rM_undone rM_kept iM_undos iM_images rM_fresher iM_fresherSize iM_scale iM_night rM_heardRow rM_cutRow iM_breaths iM_cutMany iM_allBreaths rM_trial rM_words iM_fewestBreaths iM_orderMany iM_orderSum iM_leastOrder rM_often iM_setMany iM_someOf iM_allOf iM_allWeight iM_enoughWeight iM_worthSum iM_firstRest iM_leastDrawn)]) rfl
      have hFc := va_freeM hD hS hA _ hMs
      refine va_calli (va_runV (As := [.int 1]) (rest := []) ⟨hx, hb, hml, hown, hts⟩ (tX7_no l dC dI _ oM x_2878 rM_tape iM_taped iM_size iM_at iM_end iM_token iM_whole iM_nameSize iM_fault iM_place x_2879 rM_letters iM_failed iM_hasCourt rM_r rM_fresh rM_told rM_read rM_st rM_undone rM_kept iM_undos iM_images rM_fresher iM_fresherSize iM_scale iM_night rM_heardRow rM_cutRow iM_breaths iM_cutMany iM_allBreaths rM_trial rM_words iM_fewestBreaths iM_orderMany iM_orderSum iM_leastOrder rM_often iM_setMany iM_someOf iM_allOf iM_allWeight iM_enoughWeight iM_worthSum iM_firstRest iM_leastDrawn 1 b_iM_taped b_iM_size b_iM_end b_iM_failed b_iM_hasCourt b_iM_undos b_iM_images b_iM_scale b_iM_breaths b_iM_cutMany) (cwV 1 hts (wd_V wd_396 wd_397 wd_398 wd_5 (wd_c wd_399)) rfl rfl rfl dv_yX7_no_1 ⟨Nat.le_of_ble_eq_true rfl, Nat.le_of_ble_eq_true rfl⟩) ⟨Pw.fb, recvX7 hK hP (q0 := 0) rfl, fun U hU hW => Pw.to (hP.ms _ hMs) (hD.ms _ hMs) (hK.ms [false, false, false, false] rfl) hE hS hFc hU hW⟩ rfl rfl hl.1 rfl (lv_room (Nat.le_of_ble_eq_true rfl)) dX7_askLeaves_13 ⟨Nat.le_of_ble_eq_true rfl, Nat.le_of_ble_eq_true rfl⟩) hS (fun q _ h => hFc q h) hFc (fun r u t H locs ht hvm hw hB hz1 hk1 hS => ?_)
      have hru9 := hw.2
      have hw := hw.1
      refine ex_1_1 hB (fun x_2892 e_x_2892_0 hB => ?_)
      obtain ⟨hP, hD⟩ := Bw.goN (ws' := [(oc7 oM x_2878 rM_tape iM_taped iM_size iM_at iM_end iM_token iM_whole iM_nameSize iM_fault iM_place x_2892 rM_letters iM_failed iM_hasCourt rM_r rM_fresh rM_told rM_read rM_st rM_undone rM_kept iM_undos iM_images rM_fresher iM_fresherSize iM_scale iM_night rM_heardRow rM_cutRow iM_breaths iM_cutMany iM_allBreaths rM_trial rM_words iM_fewestBreaths iM_orderMany iM_orderSum iM_leastOrder rM_often iM_setMany iM_someOf iM_allOf iM_allWeight iM_enoughWeight iM_worthSum iM_firstRest iM_leastDrawn), (arI rM_r kM_r 287 fM_r), (arI rM_told kM_told 90 fM_told), (arI rM_trial kM_trial 90 fM_trial), (arI rM_often kM_often 4 fM_often)]) hB rfl ht hP hD _ hMs hk1 hFc rfl
      clear hz1 hk1 hvm ht hB hMs
      obtain ⟨x_2893, rfl⟩ : ∃ z, z = r := ⟨_, rfl⟩
      exact wq_i hx hb hr 0 ⟨trivial, trivial⟩ (fun t ht hW => ⟨x_2878, x_2892, iM_setMany, iM_someOf, iM_allOf, fM_trial, fM_often, Bw.to hP hD hK ht hW⟩) hS dX7_askLeaves_16 hlocks
set_option maxHeartbeats 4000000 in
set_option maxRecDepth 100000 in
theorem tX7_fitAt (l : Launch) (dC : Nat → ClassId) (dI : Nat → Nat → Nat) (sz : Nat) (oM : Nat) (iM_thrown : Int32) (rM_tape : Nat) (iM_taped : Int32) (iM_size : Int32) (iM_at : Int32) (iM_end : Int32) (iM_token : Int32) (iM_whole : Int32) (iM_nameSize : Int32) (iM_fault : Int32) (iM_place : Int32) (iM_trouble : Int32) (rM_letters : Nat) (iM_failed : Int32) (iM_hasCourt : Int32) (rM_r : Nat) (fM_r : Nat → Int32) (kM_r : ClassId) (rM_fresh : Nat) (rM_told : Nat) (fM_told : Nat → Int32) (kM_told : ClassId) (rM_read : Nat) (rM_st : Nat) (rM_undone : Nat) (rM_kept : Nat) (iM_undos : Int32) (iM_images : Int32) (rM_fresher : Nat) (iM_fresherSize : Int32) (iM_scale : Int32) (iM_night : Int32) (rM_heardRow : Nat) (rM_cutRow : Nat) (iM_breaths : Int32) (iM_cutMany : Int32) (iM_allBreaths : Int32) (rM_trial : Nat) (fM_trial : Nat → Int32) (kM_trial : ClassId) (rM_words : Nat) (iM_fewestBreaths : Int32) (iM_orderMany : Int32) (iM_orderSum : Int32) (iM_leastOrder : Int32) (rM_often : Nat) (fM_often : Nat → Int32) (kM_often : ClassId) (iM_setMany : Int32) (iM_someOf : Int32) (iM_allOf : Int32) (iM_allWeight : Int64) (iM_enoughWeight : Int64) (iM_worthSum : Int64) (iM_firstRest : Int32) (iM_leastDrawn : Int32) (p0 : Int32) (b_iM_taped : 0 ≤ iM_taped.toInt ∧ iM_taped.toInt ≤ 900) (b_iM_size : 0 ≤ iM_size.toInt ∧ iM_size.toInt ≤ 900) (b_iM_end : 0 ≤ iM_end.toInt ∧ iM_end.toInt ≤ 900) (b_iM_failed : 0 ≤ iM_failed.toInt ∧ iM_failed.toInt ≤ 1) (b_iM_hasCourt : 0 ≤ iM_hasCourt.toInt ∧ iM_hasCourt.toInt ≤ 1) (b_iM_undos : 0 ≤ iM_undos.toInt ∧ iM_undos.toInt ≤ 16) (b_iM_images : 0 ≤ iM_images.toInt ∧ iM_images.toInt ≤ 3) (b_iM_scale : 1 ≤ iM_scale.toInt ∧ iM_scale.toInt ≤ 1296) (b_iM_breaths : 0 ≤ iM_breaths.toInt ∧ iM_breaths.toInt ≤ 399) (b_iM_cutMany : 0 ≤ iM_cutMany.toInt ∧ iM_cutMany.toInt ≤ 399) (r_R : ROk fM_r) (r_C : iM_hasCourt.toInt ≤ 0 ∨ (1 ≤ (fM_r 1).toInt ∧ 0 ≤ (fM_r 6).toInt ∧ (fM_r 6).toInt < (fM_r 1).toInt)) (r_told : RowOk fM_r fM_told)  : Met l yX7_fitAt (Cond.code yX7_fitAt cX7_fitAt 3 (some .int) :: wG) ({ frames := 24, cells := 0, slots := 0, locals := 630 }) (va_Pc [.ref oM, .int p0] (Pw dC dI sz [(oc7 oM iM_thrown rM_tape iM_taped iM_size iM_at iM_end iM_token iM_whole iM_nameSize iM_fault iM_place iM_trouble rM_letters iM_failed iM_hasCourt rM_r rM_fresh rM_told rM_read rM_st rM_undone rM_kept iM_undos iM_images rM_fresher iM_fresherSize iM_scale iM_night rM_heardRow rM_cutRow iM_breaths iM_cutMany iM_allBreaths rM_trial rM_words iM_fewestBreaths iM_orderMany iM_orderSum iM_leastOrder rM_often iM_setMany iM_someOf iM_allOf iM_allWeight iM_enoughWeight iM_worthSum iM_firstRest iM_leastDrawn), (arI rM_r kM_r 287 fM_r), (arI rM_told kM_told 90 fM_told), (arI rM_trial kM_trial 90 fM_trial), (arI rM_often kM_often 4 fM_often)] [(kM_r, .int), (kM_told, .int), (kM_trial, .int), (kM_often, .int)])) (va_Qi (fun (r : Int32) (_ : Nat) => True ∧ True) (fun (_ : Nat) (t : State) => ∃ (niM_thrown : Int32) (niM_trouble : Int32) (niM_setMany : Int32) (niM_someOf : Int32) (niM_allOf : Int32) (nfM_trial : Nat → Int32) (nfM_often : Nat → Int32), Bw dC dI (va_A [(oc7 oM iM_thrown rM_tape iM_taped iM_size iM_at iM_end iM_token iM_whole iM_nameSize iM_fault iM_place iM_trouble rM_letters iM_failed iM_hasCourt rM_r rM_fresh rM_told rM_read rM_st rM_undone rM_kept iM_undos iM_images rM_fresher iM_fresherSize iM_scale iM_night rM_heardRow rM_cutRow iM_breaths iM_cutMany iM_allBreaths rM_trial rM_words iM_fewestBreaths iM_orderMany iM_orderSum iM_leastOrder rM_often iM_setMany iM_someOf iM_allOf iM_allWeight iM_enoughWeight iM_worthSum iM_firstRest iM_leastDrawn), (arI rM_r kM_r 287 fM_r), (arI rM_told kM_told 90 fM_told), (arI rM_trial kM_trial 90 fM_trial), (arI rM_often kM_often 4 fM_often)] sz) [(oc7 oM niM_thrown rM_tape iM_taped iM_size iM_at iM_end iM_token iM_whole iM_nameSize iM_fault iM_place niM_trouble rM_letters iM_failed iM_hasCourt rM_r rM_fresh rM_told rM_read rM_st rM_undone rM_kept iM_undos iM_images rM_fresher iM_fresherSize iM_scale iM_night rM_heardRow rM_cutRow iM_breaths iM_cutMany iM_allBreaths rM_trial rM_words iM_fewestBreaths iM_orderMany iM_orderSum iM_leastOrder rM_often niM_setMany niM_someOf niM_allOf iM_allWeight iM_enoughWeight iM_worthSum iM_firstRest iM_leastDrawn), (arI rM_r kM_r 287 fM_r), (arI rM_told kM_told 90 fM_told), (arI rM_trial kM_trial 90 nfM_trial), (arI rM_often kM_often 4 nfM_often)] [(kM_r, .int), (kM_told, .int), (kM_trial, .int), (kM_often, .int)] t) (va_A [(oc7 oM iM_thrown rM_tape iM_taped iM_size iM_at iM_end iM_token iM_whole iM_nameSize iM_fault iM_place iM_trouble rM_letters iM_failed iM_hasCourt rM_r rM_fresh rM_told rM_read rM_st rM_undone rM_kept iM_undos iM_images rM_fresher iM_fresherSize iM_scale iM_night rM_heardRow rM_cutRow iM_breaths iM_cutMany iM_allBreaths rM_trial rM_words iM_fewestBreaths iM_orderMany iM_orderSum iM_leastOrder rM_often iM_setMany iM_someOf iM_allOf iM_allWeight iM_enoughWeight iM_worthSum iM_firstRest iM_leastDrawn), (arI rM_r kM_r 287 fM_r), (arI rM_told kM_told 90 fM_told), (arI rM_trial kM_trial 90 fM_trial), (arI rM_often kM_often 4 fM_often)] sz)) 0 0 (va_A [(oc7 oM iM_thrown rM_tape iM_taped iM_size iM_at iM_end iM_token iM_whole iM_nameSize iM_fault iM_place iM_trouble rM_letters iM_failed iM_hasCourt rM_r rM_fresh rM_told rM_read rM_st rM_undone rM_kept iM_undos iM_images rM_fresher iM_fresherSize iM_scale iM_night rM_heardRow rM_cutRow iM_breaths iM_cutMany iM_allBreaths rM_trial rM_words iM_fewestBreaths iM_orderMany iM_orderSum iM_leastOrder rM_often iM_setMany iM_someOf iM_allOf iM_allWeight iM_enoughWeight iM_worthSum iM_firstRest iM_leastDrawn), (arI rM_r kM_r 287 fM_r), (arI rM_told kM_told 90 fM_told), (arI rM_trial kM_trial 90 fM_trial), (arI rM_often kM_often 4 fM_often)] sz) := by
  refine Met.ofW (cc := cX7_fitAt) (maxL := 3) (ret := (some .int)) pnX7 rfl ?_
  intro p e s m args below meth c s₁ B hml hv
  obtain ⟨rfl, hsz, hP, hK, hD0, hE⟩ := hv
  have hx := B.exec
  have hb := B.bytes
  have hr := B.returns
  have hts : ∀ w ∈ wG, w.before ([.ref oM, .int p0] : List Value).toArray s = true := fun w h => atoms_spec (ws := Cond.code yX7_fitAt cX7_fitAt 3 (some .int) :: wG) B.pre w (List.mem_cons_of_mem _ h)
  have hown : s.vm.findClass RX7 = some m.cls := own_of B.named rfl
  have hlocks := B.notSynchronized
  subst hsz
  have hD := hD0.self (sz := s.heap.size)
  generalize hAe : va_A [(oc7 oM iM_thrown rM_tape iM_taped iM_size iM_at iM_end iM_token iM_whole iM_nameSize iM_fault iM_place iM_trouble rM_letters iM_failed iM_hasCourt rM_r rM_fresh rM_told rM_read rM_st rM_undone rM_kept iM_undos iM_images rM_fresher iM_fresherSize iM_scale iM_night rM_heardRow rM_cutRow iM_breaths iM_cutMany iM_allBreaths rM_trial rM_words iM_fewestBreaths iM_orderMany iM_orderSum iM_leastOrder rM_often iM_setMany iM_someOf iM_allOf iM_allWeight iM_enoughWeight iM_worthSum iM_firstRest iM_leastDrawn), (arI rM_r kM_r 287 fM_r), (arI rM_told kM_told 90 fM_told), (arI rM_trial kM_trial 90 fM_trial), (arI rM_often kM_often 4 fM_often)] s.heap.size = A at hD hE ⊢
  have hA : ∀ q : Nat, s.heap.size ≤ q → A q := fun q h => by rw [← hAe]; exact Or.inr h
  have hS : va_S A s.heap s.heap [] := va_S.rf
  have hl := lv_entry ([.ref oM, .int p0]) (n := 3) (Nat.le_of_ble_eq_true rfl)
  rw [lg_entry_eq]
  generalize (lg_sl ([.ref oM, .int p0]) ++ List.replicate (3 - (lg_sl ([.ref oM, .int p0])).length) Slot.unset).toArray = ls at hl ⊢
  have hl : lv_has ls 3 [(0, .ref oM), (1, .int p0)] := hl
  have s_slips := r_R.slips
  have s_nodes := r_R.nodes
  have s_uns := r_R.uns
  refine lv_aload_n hx hb dX7_fitAt_0 rfl (lv_at hl 0 rfl) ?_
  have hMs := ml_of hD [true, false, false, false, false] (wc := [(oc7 oM iM_thrown rM_tape iM_taped iM_size iM_at iM_end iM_token iM_whole iM_nameSize iM_fault iM_place iM_trouble rM_letters iM_failed iM_hasCourt rM_r rM_fresh rM_told rM_read rM_st rM_undone rM_kept iM_undos iM_images rM_fresher iM_fresherSize iM_scale iM_night rM_heardRow rM_cutRow iM_breaths iM_cutMany iM_allBreaths rM_trial rM_words iM_fewestBreaths iM_orderMany iM_orderSum iM_leastOrder rM_often iM_setMany iM_someOf iM_allOf iM_allWeight iM_enoughWeight iM_worthSum iM_firstRest iM_leastDrawn)]) rfl
  have hFc := va_freeM hD hS hA _ hMs
  refine va_callv (va_runV (As := []) (rest := []) ⟨hx, hb, hml, hown, hts⟩ (tX7_good l dC dI _ oM iM_thrown rM_tape iM_taped iM_size iM_at iM_end iM_token iM_whole iM_nameSize iM_fault iM_place iM_trouble rM_letters iM_failed iM_hasCourt rM_r rM_fresh rM_told rM_read rM_st rM_undone rM_kept iM_undos iM_images rM_fresher iM_fresherSize iM_scale iM_night rM_heardRow rM_cutRow iM_breaths iM_cutMany iM_allBreaths rM_trial rM_words iM_fewestBreaths iM_orderMany iM_orderSum iM_leastOrder rM_often iM_setMany iM_someOf iM_allOf iM_allWeight iM_enoughWeight iM_worthSum iM_firstRest iM_leastDrawn b_iM_taped b_iM_size b_iM_end b_iM_failed b_iM_hasCourt b_iM_undos b_iM_images b_iM_scale b_iM_breaths b_iM_cutMany) (cwV 0 hts (wd_V wd_388 wd_389 wd_390 wd_5 (wd_c wd_391)) rfl rfl rfl dv_yX7_good_0 ⟨Nat.le_of_ble_eq_true rfl, Nat.le_of_ble_eq_true rfl⟩) ⟨Pw.fb, recvX7 hK hP (q0 := 0) rfl, fun U hU hW => Pw.to (hP.ms _ hMs) (hD.ms _ hMs) (hK.ms [false, false, false, false] rfl) hE hS hFc hU hW⟩ rfl rfl hl.1 rfl (lv_room (Nat.le_of_ble_eq_true rfl)) dX7_fitAt_1 ⟨Nat.le_of_ble_eq_true rfl, Nat.le_of_ble_eq_true rfl⟩) hS (fun q _ h => hFc q h) hFc (fun u t H locs ht hvm hw hB hz1 hk1 hS => ?_)
  refine ex_2_3 hB (fun x_2914 x_2915 b_x_2914 b_x_2915 e_x_2914_0 hB => ?_)
  obtain ⟨hP, hD⟩ := Bw.goN (ws' := [(oc7 oM x_2914 rM_tape iM_taped iM_size iM_at iM_end iM_token iM_whole iM_nameSize iM_fault iM_place x_2915 rM_letters iM_failed iM_hasCourt rM_r rM_fresh rM_told rM_read rM_st rM_undone rM_kept iM_undos iM_images rM_fresher iM_fresherSize iM_scale iM_night rM_heardRow rM_cutRow iM_breaths iM_cutMany iM_allBreaths rM_trial rM_words iM_fewestBreaths iM_orderMany iM_orderSum iM_leastOrder rM_often iM_setMany iM_someOf iM_allOf iM_allWeight iM_enoughWeight iM_worthSum iM_firstRest iM_leastDrawn), (arI rM_r kM_r 287 fM_r), (arI rM_told kM_told 90 fM_told), (arI rM_trial kM_trial 90 fM_trial), (arI rM_often kM_often 4 fM_often)]) hB rfl ht hP hD _ hMs hk1 hFc rfl
  clear hz1 hk1 hvm ht hB hMs
  refine lv_aload_n hx hb dX7_fitAt_4 rfl (lv_at hl 0 rfl) ?_
  rcases (id r_C) with r_C0 | r_C1
  · skip
    refine va_get (D := (dC, dI)) (ci := 7) (v := .int iM_hasCourt) (C := RX7) (T := TX7) (N := 48) hx hb hts inX7 hown hK hP 0 rfl rfl 14 (by decide) (hts _ wd_385) (fun _ h9 => h9) rfl dX7_fitAt_5 ?_
    refine lv_if_eq (tgt := 15) hx hb dX7_fitAt_8 (by decide) (fun c_2916 => ?_) (fun c_2916 => ?_)
    · skip
      have gc_2916 := ti_eq c_2916 rfl kc_0
      refine lv_aload_n hx hb dX7_fitAt_15 rfl (lv_at hl 0 rfl) ?_
      refine lv_iconst (v := 1) hx hb dX7_fitAt_16 (by decide) ?_
      have hMs := ml_of hD [true, false, false, false, false] (wc := [(oc7 oM x_2914 rM_tape iM_taped iM_size iM_at iM_end iM_token iM_whole iM_nameSize iM_fault iM_place x_2915 rM_letters iM_failed iM_hasCourt rM_r rM_fresh rM_told rM_read rM_st rM_undone rM_kept iM_undos iM_images rM_fresher iM_fresherSize iM_scale iM_night rM_heardRow rM_cutRow iM_breaths iM_cutMany iM_allBreaths rM_trial rM_words iM_fewestBreaths iM_orderMany iM_orderSum iM_leastOrder rM_often iM_setMany iM_someOf iM_allOf iM_allWeight iM_enoughWeight iM_worthSum iM_firstRest iM_leastDrawn)]) rfl
      have hFc := va_freeM hD hS hA _ hMs
      refine va_calli (va_runV (As := [.int 1]) (rest := []) ⟨hx, hb, hml, hown, hts⟩ (tX7_no l dC dI _ oM x_2914 rM_tape iM_taped iM_size iM_at iM_end iM_token iM_whole iM_nameSize iM_fault iM_place x_2915 rM_letters iM_failed iM_hasCourt rM_r rM_fresh rM_told rM_read rM_st rM_undone rM_kept iM_undos iM_images rM_fresher iM_fresherSize iM_scale iM_night rM_heardRow rM_cutRow iM_breaths iM_cutMany iM_allBreaths rM_trial rM_words iM_fewestBreaths iM_orderMany iM_orderSum iM_leastOrder rM_often iM_setMany iM_someOf iM_allOf iM_allWeight iM_enoughWeight iM_worthSum iM_firstRest iM_leastDrawn 1 b_iM_taped b_iM_size b_iM_end b_iM_failed b_iM_hasCourt b_iM_undos b_iM_images b_iM_scale b_iM_breaths b_iM_cutMany) (cwV 1 hts (wd_V wd_396 wd_397 wd_398 wd_5 (wd_c wd_399)) rfl rfl rfl dv_yX7_no_1 ⟨Nat.le_of_ble_eq_true rfl, Nat.le_of_ble_eq_true rfl⟩) ⟨Pw.fb, recvX7 hK hP (q0 := 0) rfl, fun U hU hW => Pw.to (hP.ms _ hMs) (hD.ms _ hMs) (hK.ms [false, false, false, false] rfl) hE hS hFc hU hW⟩ rfl rfl hl.1 rfl (lv_room (Nat.le_of_ble_eq_true rfl)) dX7_fitAt_17 ⟨Nat.le_of_ble_eq_true rfl, Nat.le_of_ble_eq_true rfl⟩) hS (fun q _ h => hFc q h) hFc (fun r u t H locs ht hvm hw hB hz1 hk1 hS => ?_)
      have hru9 := hw.2
      have hw := hw.1
      refine ex_1_1 hB (fun x_2917 e_x_2917_0 hB => ?_)
      obtain ⟨hP, hD⟩ := Bw.goN (ws' := [(oc7 oM x_2914 rM_tape iM_taped iM_size iM_at iM_end iM_token iM_whole iM_nameSize iM_fault iM_place x_2917 rM_letters iM_failed iM_hasCourt rM_r rM_fresh rM_told rM_read rM_st rM_undone rM_kept iM_undos iM_images rM_fresher iM_fresherSize iM_scale iM_night rM_heardRow rM_cutRow iM_breaths iM_cutMany iM_allBreaths rM_trial rM_words iM_fewestBreaths iM_orderMany iM_orderSum iM_leastOrder rM_often iM_setMany iM_someOf iM_allOf iM_allWeight iM_enoughWeight iM_worthSum iM_firstRest iM_leastDrawn), (arI rM_r kM_r 287 fM_r), (arI rM_told kM_told 90 fM_told), (arI rM_trial kM_trial 90 fM_trial), (arI rM_often kM_often 4 fM_often)]) hB rfl ht hP hD _ hMs hk1 hFc rfl
      clear hz1 hk1 hvm ht hB hMs
      obtain ⟨x_2918, rfl⟩ : ∃ z, z = r := ⟨_, rfl⟩
      exact wq_i hx hb hr 0 ⟨trivial, trivial⟩ (fun t ht hW => ⟨x_2914, x_2917, iM_setMany, iM_someOf, iM_allOf, fM_trial, fM_often, Bw.to hP hD hK ht hW⟩) hS dX7_fitAt_20 hlocks
    · skip
      have gc_2916 := ti_ne c_2916 rfl kc_0
      exact (om_c9ba8b89 gc_2916 r_C0 b_iM_hasCourt.1).elim
  · skip
    refine va_get (D := (dC, dI)) (ci := 7) (v := .int iM_hasCourt) (C := RX7) (T := TX7) (N := 48) hx hb hts inX7 hown hK hP 0 rfl rfl 14 (by decide) (hts _ wd_385) (fun _ h9 => h9) rfl dX7_fitAt_5 ?_
    refine lv_if_eq (tgt := 15) hx hb dX7_fitAt_8 (by decide) (fun c_2919 => ?_) (fun c_2919 => ?_)
    · skip
      have gc_2919 := ti_eq c_2919 rfl kc_0
      refine lv_aload_n hx hb dX7_fitAt_15 rfl (lv_at hl 0 rfl) ?_
      refine lv_iconst (v := 1) hx hb dX7_fitAt_16 (by decide) ?_
      have hMs := ml_of hD [true, false, false, false, false] (wc := [(oc7 oM x_2914 rM_tape iM_taped iM_size iM_at iM_end iM_token iM_whole iM_nameSize iM_fault iM_place x_2915 rM_letters iM_failed iM_hasCourt rM_r rM_fresh rM_told rM_read rM_st rM_undone rM_kept iM_undos iM_images rM_fresher iM_fresherSize iM_scale iM_night rM_heardRow rM_cutRow iM_breaths iM_cutMany iM_allBreaths rM_trial rM_words iM_fewestBreaths iM_orderMany iM_orderSum iM_leastOrder rM_often iM_setMany iM_someOf iM_allOf iM_allWeight iM_enoughWeight iM_worthSum iM_firstRest iM_leastDrawn)]) rfl
      have hFc := va_freeM hD hS hA _ hMs
      refine va_calli (va_runV (As := [.int 1]) (rest := []) ⟨hx, hb, hml, hown, hts⟩ (tX7_no l dC dI _ oM x_2914 rM_tape iM_taped iM_size iM_at iM_end iM_token iM_whole iM_nameSize iM_fault iM_place x_2915 rM_letters iM_failed iM_hasCourt rM_r rM_fresh rM_told rM_read rM_st rM_undone rM_kept iM_undos iM_images rM_fresher iM_fresherSize iM_scale iM_night rM_heardRow rM_cutRow iM_breaths iM_cutMany iM_allBreaths rM_trial rM_words iM_fewestBreaths iM_orderMany iM_orderSum iM_leastOrder rM_often iM_setMany iM_someOf iM_allOf iM_allWeight iM_enoughWeight iM_worthSum iM_firstRest iM_leastDrawn 1 b_iM_taped b_iM_size b_iM_end b_iM_failed b_iM_hasCourt b_iM_undos b_iM_images b_iM_scale b_iM_breaths b_iM_cutMany) (cwV 1 hts (wd_V wd_396 wd_397 wd_398 wd_5 (wd_c wd_399)) rfl rfl rfl dv_yX7_no_1 ⟨Nat.le_of_ble_eq_true rfl, Nat.le_of_ble_eq_true rfl⟩) ⟨Pw.fb, recvX7 hK hP (q0 := 0) rfl, fun U hU hW => Pw.to (hP.ms _ hMs) (hD.ms _ hMs) (hK.ms [false, false, false, false] rfl) hE hS hFc hU hW⟩ rfl rfl hl.1 rfl (lv_room (Nat.le_of_ble_eq_true rfl)) dX7_fitAt_17 ⟨Nat.le_of_ble_eq_true rfl, Nat.le_of_ble_eq_true rfl⟩) hS (fun q _ h => hFc q h) hFc (fun r u t H locs ht hvm hw hB hz1 hk1 hS => ?_)
      have hru9 := hw.2
      have hw := hw.1
      refine ex_1_1 hB (fun x_2920 e_x_2920_0 hB => ?_)
      obtain ⟨hP, hD⟩ := Bw.goN (ws' := [(oc7 oM x_2914 rM_tape iM_taped iM_size iM_at iM_end iM_token iM_whole iM_nameSize iM_fault iM_place x_2920 rM_letters iM_failed iM_hasCourt rM_r rM_fresh rM_told rM_read rM_st rM_undone rM_kept iM_undos iM_images rM_fresher iM_fresherSize iM_scale iM_night rM_heardRow rM_cutRow iM_breaths iM_cutMany iM_allBreaths rM_trial rM_words iM_fewestBreaths iM_orderMany iM_orderSum iM_leastOrder rM_often iM_setMany iM_someOf iM_allOf iM_allWeight iM_enoughWeight iM_worthSum iM_firstRest iM_leastDrawn), (arI rM_r kM_r 287 fM_r), (arI rM_told kM_told 90 fM_told), (arI rM_trial kM_trial 90 fM_trial), (arI rM_often kM_often 4 fM_often)]) hB rfl ht hP hD _ hMs hk1 hFc rfl
      clear hz1 hk1 hvm ht hB hMs
      obtain ⟨x_2921, rfl⟩ : ∃ z, z = r := ⟨_, rfl⟩
      exact wq_i hx hb hr 0 ⟨trivial, trivial⟩ (fun t ht hW => ⟨x_2914, x_2920, iM_setMany, iM_someOf, iM_allOf, fM_trial, fM_often, Bw.to hP hD hK ht hW⟩) hS dX7_fitAt_20 hlocks
    · skip
      have gc_2919 := ti_ne c_2919 rfl kc_0
      refine lv_iload_n hx hb dX7_fitAt_11 rfl (lv_at hl 1 rfl) ?_
      refine lv_if_ge (tgt := 21) hx hb dX7_fitAt_12 (by decide) (fun c_2922 => ?_) (fun c_2922 => ?_)
      · skip
        have gc_2922 := ti_le c_2922 kc_0 rfl
        refine lv_aload_n hx hb dX7_fitAt_21 rfl (lv_at hl 0 rfl) ?_
        refine lv_iload_n hx hb dX7_fitAt_22 rfl (lv_at hl 1 rfl) ?_
        have hFc := va_freeI hD hS hA
        refine va_calli (va_runV (As := [.int p0]) (rest := []) ⟨hx, hb, hml, hown, hts⟩ (tX7_seekSets l dC dI _ oM x_2914 rM_tape iM_taped iM_size iM_at iM_end iM_token iM_whole iM_nameSize iM_fault iM_place x_2915 rM_letters iM_failed iM_hasCourt rM_r fM_r kM_r rM_fresh rM_told fM_told kM_told rM_read rM_st rM_undone rM_kept iM_undos iM_images rM_fresher iM_fresherSize iM_scale iM_night rM_heardRow rM_cutRow iM_breaths iM_cutMany iM_allBreaths rM_trial fM_trial kM_trial rM_words iM_fewestBreaths iM_orderMany iM_orderSum iM_leastOrder rM_often fM_often kM_often iM_setMany iM_someOf iM_allOf iM_allWeight iM_enoughWeight iM_worthSum iM_firstRest iM_leastDrawn p0 b_iM_taped b_iM_size b_iM_end b_iM_failed b_iM_hasCourt b_iM_undos b_iM_images b_iM_scale b_iM_breaths b_iM_cutMany (by assumption) (by assumption) (by assumption) ⟨r_C1.2.1, r_C1.2.2⟩) (cwV 1 hts (wd_V wd_1182 wd_1183 wd_1184 wd_5 (wd_c wd_1185)) rfl rfl rfl dv_yX7_seekSets_1 ⟨Nat.le_of_ble_eq_true rfl, Nat.le_of_ble_eq_true rfl⟩) ⟨Pw.fb, recvX7 hK hP (q0 := 0) rfl, fun U hU hW => Pw.to hP hD hK hE hS hFc hU hW⟩ rfl rfl hl.1 rfl (lv_room (Nat.le_of_ble_eq_true rfl)) dX7_fitAt_23 ⟨Nat.le_of_ble_eq_true rfl, Nat.le_of_ble_eq_true rfl⟩) hS (fun q _ h => hFc q h) hFc (fun r u t H locs ht hvm hw hB hz1 hk1 hS => ?_)
        refine ex_5_0 hB (fun x_2923 x_2924 x_2925 f_2926 f_2927 hB => ?_)
        obtain ⟨hP, hD⟩ := Bw.goA (ws' := [(oc7 oM x_2914 rM_tape iM_taped iM_size iM_at iM_end iM_token iM_whole iM_nameSize iM_fault iM_place x_2915 rM_letters iM_failed iM_hasCourt rM_r rM_fresh rM_told rM_read rM_st rM_undone rM_kept iM_undos iM_images rM_fresher iM_fresherSize iM_scale iM_night rM_heardRow rM_cutRow iM_breaths iM_cutMany iM_allBreaths rM_trial rM_words iM_fewestBreaths iM_orderMany iM_orderSum iM_leastOrder rM_often x_2923 x_2924 x_2925 iM_allWeight iM_enoughWeight iM_worthSum iM_firstRest iM_leastDrawn), (arI rM_r kM_r 287 fM_r), (arI rM_told kM_told 90 fM_told), (arI rM_trial kM_trial 90 f_2926), (arI rM_often kM_often 4 f_2927)]) hB rfl ht hFc rfl
        clear hz1 hk1 hvm ht hB
        obtain ⟨x_2928, rfl⟩ : ∃ z, z = r := ⟨_, rfl⟩
        refine lv_istore_n (lv' := [(2, .int x_2928), (0, .ref oM), (1, .int p0)]) hx hb dX7_fitAt_26 rfl hl (by decide) rfl (fun ls hl => ?_)
        refine lv_iload_n hx hb dX7_fitAt_27 rfl (lv_at hl 0 rfl) ?_
        refine lv_if_ge (tgt := 39) hx hb dX7_fitAt_28 (by decide) (fun c_2929 => ?_) (fun c_2929 => ?_)
        · skip
          have gc_2929 := ti_le c_2929 kc_0 rfl
          refine lv_iload_n hx hb dX7_fitAt_39 rfl (lv_at hl 0 rfl) ?_
          exact wq_i hx hb hr 0 ⟨trivial, trivial⟩ (fun t ht hW => ⟨x_2914, x_2915, x_2923, x_2924, x_2925, f_2926, f_2927, Bw.to hP hD hK ht hW⟩) hS dX7_fitAt_40 hlocks
        · skip
          have gc_2929 := ti_nle c_2929 kc_0 rfl
          refine lv_aload_n hx hb dX7_fitAt_31 rfl (lv_at hl 1 rfl) ?_
          refine lv_iconst (v := 1) hx hb dX7_fitAt_32 (by decide) ?_
          have hMs := ml_of hD [true, false, false, false, false] (wc := [(oc7 oM x_2914 rM_tape iM_taped iM_size iM_at iM_end iM_token iM_whole iM_nameSize iM_fault iM_place x_2915 rM_letters iM_failed iM_hasCourt rM_r rM_fresh rM_told rM_read rM_st rM_undone rM_kept iM_undos iM_images rM_fresher iM_fresherSize iM_scale iM_night rM_heardRow rM_cutRow iM_breaths iM_cutMany iM_allBreaths rM_trial rM_words iM_fewestBreaths iM_orderMany iM_orderSum iM_leastOrder rM_often x_2923 x_2924 x_2925 iM_allWeight iM_enoughWeight iM_worthSum iM_firstRest iM_leastDrawn)]) rfl
          have hFc := va_freeM hD hS hA _ hMs
          refine va_calli (va_runV (As := [.int 1]) (rest := []) ⟨hx, hb, hml, hown, hts⟩ (tX7_no l dC dI _ oM x_2914 rM_tape iM_taped iM_size iM_at iM_end iM_token iM_whole iM_nameSize iM_fault iM_place x_2915 rM_letters iM_failed iM_hasCourt rM_r rM_fresh rM_told rM_read rM_st rM_undone rM_kept iM_undos iM_images rM_fresher iM_fresherSize iM_scale iM_night rM_heardRow rM_cutRow iM_breaths iM_cutMany iM_allBreaths rM_trial rM_words iM_fewestBreaths iM_orderMany iM_orderSum iM_leastOrder rM_often x_2923 x_2924 x_2925 iM_allWeight iM_enoughWeight iM_worthSum iM_firstRest iM_leastDrawn 1 b_iM_taped b_iM_size b_iM_end b_iM_failed b_iM_hasCourt b_iM_undos b_iM_images b_iM_scale b_iM_breaths b_iM_cutMany) (cwV 1 hts (wd_V wd_396 wd_397 wd_398 wd_5 (wd_c wd_399)) rfl rfl rfl dv_yX7_no_1 ⟨Nat.le_of_ble_eq_true rfl, Nat.le_of_ble_eq_true rfl⟩) ⟨Pw.fb, recvX7 hK hP (q0 := 0) rfl, fun U hU hW => Pw.to (hP.ms _ hMs) (hD.ms _ hMs) (hK.ms [false, false, false, false] rfl) hE hS hFc hU hW⟩ rfl rfl hl.1 rfl (lv_room (Nat.le_of_ble_eq_true rfl)) dX7_fitAt_33 ⟨Nat.le_of_ble_eq_true rfl, Nat.le_of_ble_eq_true rfl⟩) hS (fun q _ h => hFc q h) hFc (fun r u t H locs ht hvm hw hB hz1 hk1 hS => ?_)
          have hru9 := hw.2
          have hw := hw.1
          refine ex_1_1 hB (fun x_2930 e_x_2930_0 hB => ?_)
          obtain ⟨hP, hD⟩ := Bw.goN (ws' := [(oc7 oM x_2914 rM_tape iM_taped iM_size iM_at iM_end iM_token iM_whole iM_nameSize iM_fault iM_place x_2930 rM_letters iM_failed iM_hasCourt rM_r rM_fresh rM_told rM_read rM_st rM_undone rM_kept iM_undos iM_images rM_fresher iM_fresherSize iM_scale iM_night rM_heardRow rM_cutRow iM_breaths iM_cutMany iM_allBreaths rM_trial rM_words iM_fewestBreaths iM_orderMany iM_orderSum iM_leastOrder rM_often x_2923 x_2924 x_2925 iM_allWeight iM_enoughWeight iM_worthSum iM_firstRest iM_leastDrawn), (arI rM_r kM_r 287 fM_r), (arI rM_told kM_told 90 fM_told), (arI rM_trial kM_trial 90 f_2926), (arI rM_often kM_often 4 f_2927)]) hB rfl ht hP hD _ hMs hk1 hFc rfl
          clear hz1 hk1 hvm ht hB hMs
          obtain ⟨x_2931, rfl⟩ : ∃ z, z = r := ⟨_, rfl⟩
          refine lv_goto (tgt := 40) hx hb dX7_fitAt_36 (by decide) ?_
          exact wq_i hx hb hr 0 ⟨trivial, trivial⟩ (fun t ht hW => ⟨x_2914, x_2930, x_2923, x_2924, x_2925, f_2926, f_2927, Bw.to hP hD hK ht hW⟩) hS dX7_fitAt_40 hlocks
      · skip
        have gc_2922 := ti_nle c_2922 kc_0 rfl
        refine lv_aload_n hx hb dX7_fitAt_15 rfl (lv_at hl 0 rfl) ?_
        refine lv_iconst (v := 1) hx hb dX7_fitAt_16 (by decide) ?_
        have hMs := ml_of hD [true, false, false, false, false] (wc := [(oc7 oM x_2914 rM_tape iM_taped iM_size iM_at iM_end iM_token iM_whole iM_nameSize iM_fault iM_place x_2915 rM_letters iM_failed iM_hasCourt rM_r rM_fresh rM_told rM_read rM_st rM_undone rM_kept iM_undos iM_images rM_fresher iM_fresherSize iM_scale iM_night rM_heardRow rM_cutRow iM_breaths iM_cutMany iM_allBreaths rM_trial rM_words iM_fewestBreaths iM_orderMany iM_orderSum iM_leastOrder rM_often iM_setMany iM_someOf iM_allOf iM_allWeight iM_enoughWeight iM_worthSum iM_firstRest iM_leastDrawn)]) rfl
        have hFc := va_freeM hD hS hA _ hMs
        refine va_calli (va_runV (As := [.int 1]) (rest := []) ⟨hx, hb, hml, hown, hts⟩ (tX7_no l dC dI _ oM x_2914 rM_tape iM_taped iM_size iM_at iM_end iM_token iM_whole iM_nameSize iM_fault iM_place x_2915 rM_letters iM_failed iM_hasCourt rM_r rM_fresh rM_told rM_read rM_st rM_undone rM_kept iM_undos iM_images rM_fresher iM_fresherSize iM_scale iM_night rM_heardRow rM_cutRow iM_breaths iM_cutMany iM_allBreaths rM_trial rM_words iM_fewestBreaths iM_orderMany iM_orderSum iM_leastOrder rM_often iM_setMany iM_someOf iM_allOf iM_allWeight iM_enoughWeight iM_worthSum iM_firstRest iM_leastDrawn 1 b_iM_taped b_iM_size b_iM_end b_iM_failed b_iM_hasCourt b_iM_undos b_iM_images b_iM_scale b_iM_breaths b_iM_cutMany) (cwV 1 hts (wd_V wd_396 wd_397 wd_398 wd_5 (wd_c wd_399)) rfl rfl rfl dv_yX7_no_1 ⟨Nat.le_of_ble_eq_true rfl, Nat.le_of_ble_eq_true rfl⟩) ⟨Pw.fb, recvX7 hK hP (q0 := 0) rfl, fun U hU hW => Pw.to (hP.ms _ hMs) (hD.ms _ hMs) (hK.ms [false, false, false, false] rfl) hE hS hFc hU hW⟩ rfl rfl hl.1 rfl (lv_room (Nat.le_of_ble_eq_true rfl)) dX7_fitAt_17 ⟨Nat.le_of_ble_eq_true rfl, Nat.le_of_ble_eq_true rfl⟩) hS (fun q _ h => hFc q h) hFc (fun r u t H locs ht hvm hw hB hz1 hk1 hS => ?_)
        have hru9 := hw.2
        have hw := hw.1
        refine ex_1_1 hB (fun x_2932 e_x_2932_0 hB => ?_)
        obtain ⟨hP, hD⟩ := Bw.goN (ws' := [(oc7 oM x_2914 rM_tape iM_taped iM_size iM_at iM_end iM_token iM_whole iM_nameSize iM_fault iM_place x_2932 rM_letters iM_failed iM_hasCourt rM_r rM_fresh rM_told rM_read rM_st rM_undone rM_kept iM_undos iM_images rM_fresher iM_fresherSize iM_scale iM_night rM_heardRow rM_cutRow iM_breaths iM_cutMany iM_allBreaths rM_trial rM_words iM_fewestBreaths iM_orderMany iM_orderSum iM_leastOrder rM_often iM_setMany iM_someOf iM_allOf iM_allWeight iM_enoughWeight iM_worthSum iM_firstRest iM_leastDrawn), (arI rM_r kM_r 287 fM_r), (arI rM_told kM_told 90 fM_told), (arI rM_trial kM_trial 90 fM_trial), (arI rM_often kM_often 4 fM_often)]) hB rfl ht hP hD _ hMs hk1 hFc rfl
        clear hz1 hk1 hvm ht hB hMs
        obtain ⟨x_2933, rfl⟩ : ∃ z, z = r := ⟨_, rfl⟩
        exact wq_i hx hb hr 0 ⟨trivial, trivial⟩ (fun t ht hW => ⟨x_2914, x_2932, iM_setMany, iM_someOf, iM_allOf, fM_trial, fM_often, Bw.to hP hD hK ht hW⟩) hS dX7_fitAt_20 hlocks
set_option maxHeartbeats 4000000 in
set_option maxRecDepth 100000 in
theorem tX7_speaks (l : Launch) (dC : Nat → ClassId) (dI : Nat → Nat → Nat) (sz : Nat) (oM : Nat) (iM_thrown : Int32) (rM_tape : Nat) (iM_taped : Int32) (iM_size : Int32) (iM_at : Int32) (iM_end : Int32) (iM_token : Int32) (iM_whole : Int32) (iM_nameSize : Int32) (iM_fault : Int32) (iM_place : Int32) (iM_trouble : Int32) (rM_letters : Nat) (iM_failed : Int32) (iM_hasCourt : Int32) (rM_r : Nat) (fM_r : Nat → Int32) (kM_r : ClassId) (rM_fresh : Nat) (rM_told : Nat) (rM_read : Nat) (rM_st : Nat) (rM_undone : Nat) (rM_kept : Nat) (iM_undos : Int32) (iM_images : Int32) (rM_fresher : Nat) (iM_fresherSize : Int32) (iM_scale : Int32) (iM_night : Int32) (rM_heardRow : Nat) (rM_cutRow : Nat) (iM_breaths : Int32) (iM_cutMany : Int32) (iM_allBreaths : Int32) (rM_trial : Nat) (rM_words : Nat) (iM_fewestBreaths : Int32) (iM_orderMany : Int32) (iM_orderSum : Int32) (iM_leastOrder : Int32) (rM_often : Nat) (iM_setMany : Int32) (iM_someOf : Int32) (iM_allOf : Int32) (iM_allWeight : Int64) (iM_enoughWeight : Int64) (iM_worthSum : Int64) (iM_firstRest : Int32) (iM_leastDrawn : Int32) (p0 : Int32) (p1 : Int32) (p2 : Int32) (p3 : Int32) (b_iM_taped : 0 ≤ iM_taped.toInt ∧ iM_taped.toInt ≤ 900) (b_iM_size : 0 ≤ iM_size.toInt ∧ iM_size.toInt ≤ 900) (b_iM_end : 0 ≤ iM_end.toInt ∧ iM_end.toInt ≤ 900) (b_iM_failed : 0 ≤ iM_failed.toInt ∧ iM_failed.toInt ≤ 1) (b_iM_hasCourt : 0 ≤ iM_hasCourt.toInt ∧ iM_hasCourt.toInt ≤ 1) (b_iM_undos : 0 ≤ iM_undos.toInt ∧ iM_undos.toInt ≤ 16) (b_iM_images : 0 ≤ iM_images.toInt ∧ iM_images.toInt ≤ 3) (b_iM_scale : 1 ≤ iM_scale.toInt ∧ iM_scale.toInt ≤ 1296) (b_iM_breaths : 0 ≤ iM_breaths.toInt ∧ iM_breaths.toInt ≤ 399) (b_iM_cutMany : 0 ≤ iM_cutMany.toInt ∧ iM_cutMany.toInt ≤ 399) (r_R : ROk fM_r) (r_C : iM_hasCourt.toInt ≤ 0 ∨ (1 ≤ (fM_r 1).toInt ∧ 0 ≤ (fM_r 6).toInt ∧ (fM_r 6).toInt < (fM_r 1).toInt))  : Met l yX7_speaks (Cond.code yX7_speaks cX7_speaks 6 (some .int) :: wG) ({ frames := 1, cells := 0, slots := 0, locals := 22 }) (va_Pc [.ref oM, .int p0, .int p1, .int p2, .int p3] (Pw dC dI sz [(oc7 oM iM_thrown rM_tape iM_taped iM_size iM_at iM_end iM_token iM_whole iM_nameSize iM_fault iM_place iM_trouble rM_letters iM_failed iM_hasCourt rM_r rM_fresh rM_told rM_read rM_st rM_undone rM_kept iM_undos iM_images rM_fresher iM_fresherSize iM_scale iM_night rM_heardRow rM_cutRow iM_breaths iM_cutMany iM_allBreaths rM_trial rM_words iM_fewestBreaths iM_orderMany iM_orderSum iM_leastOrder rM_often iM_setMany iM_someOf iM_allOf iM_allWeight iM_enoughWeight iM_worthSum iM_firstRest iM_leastDrawn), (arI rM_r kM_r 287 fM_r)] [(kM_r, .int)])) (va_Qi (fun (r : Int32) (u : Nat) => (True ∧ True) ∧ r = Int32.ofNat u) (fun (u : Nat) (t : State) => ∃ (niM_thrown : Int32) (niM_trouble : Int32), (PX7_speaks iM_hasCourt p0 p1 p2 p3 = (Int32.ofNat u, niM_thrown, niM_trouble)) ∧ Bw dC dI (va_A [(oc7 oM iM_thrown rM_tape iM_taped iM_size iM_at iM_end iM_token iM_whole iM_nameSize iM_fault iM_place iM_trouble rM_letters iM_failed iM_hasCourt rM_r rM_fresh rM_told rM_read rM_st rM_undone rM_kept iM_undos iM_images rM_fresher iM_fresherSize iM_scale iM_night rM_heardRow rM_cutRow iM_breaths iM_cutMany iM_allBreaths rM_trial rM_words iM_fewestBreaths iM_orderMany iM_orderSum iM_leastOrder rM_often iM_setMany iM_someOf iM_allOf iM_allWeight iM_enoughWeight iM_worthSum iM_firstRest iM_leastDrawn), (arI rM_r kM_r 287 fM_r)] sz) [(oc7 oM niM_thrown rM_tape iM_taped iM_size iM_at iM_end iM_token iM_whole iM_nameSize iM_fault iM_place niM_trouble rM_letters iM_failed iM_hasCourt rM_r rM_fresh rM_told rM_read rM_st rM_undone rM_kept iM_undos iM_images rM_fresher iM_fresherSize iM_scale iM_night rM_heardRow rM_cutRow iM_breaths iM_cutMany iM_allBreaths rM_trial rM_words iM_fewestBreaths iM_orderMany iM_orderSum iM_leastOrder rM_often iM_setMany iM_someOf iM_allOf iM_allWeight iM_enoughWeight iM_worthSum iM_firstRest iM_leastDrawn), (arI rM_r kM_r 287 fM_r)] [(kM_r, .int)] t) (va_A [(oc7 oM iM_thrown rM_tape iM_taped iM_size iM_at iM_end iM_token iM_whole iM_nameSize iM_fault iM_place iM_trouble rM_letters iM_failed iM_hasCourt rM_r rM_fresh rM_told rM_read rM_st rM_undone rM_kept iM_undos iM_images rM_fresher iM_fresherSize iM_scale iM_night rM_heardRow rM_cutRow iM_breaths iM_cutMany iM_allBreaths rM_trial rM_words iM_fewestBreaths iM_orderMany iM_orderSum iM_leastOrder rM_often iM_setMany iM_someOf iM_allOf iM_allWeight iM_enoughWeight iM_worthSum iM_firstRest iM_leastDrawn), (arI rM_r kM_r 287 fM_r)] sz)) 0 0 (va_A [(oc7 oM iM_thrown rM_tape iM_taped iM_size iM_at iM_end iM_token iM_whole iM_nameSize iM_fault iM_place iM_trouble rM_letters iM_failed iM_hasCourt rM_r rM_fresh rM_told rM_read rM_st rM_undone rM_kept iM_undos iM_images rM_fresher iM_fresherSize iM_scale iM_night rM_heardRow rM_cutRow iM_breaths iM_cutMany iM_allBreaths rM_trial rM_words iM_fewestBreaths iM_orderMany iM_orderSum iM_leastOrder rM_often iM_setMany iM_someOf iM_allOf iM_allWeight iM_enoughWeight iM_worthSum iM_firstRest iM_leastDrawn), (arI rM_r kM_r 287 fM_r)] sz) := by
  refine Met.ofW (cc := cX7_speaks) (maxL := 6) (ret := (some .int)) pnX7 rfl ?_
  intro p e s m args below meth c s₁ B hml hv
  obtain ⟨rfl, hsz, hP, hK, hD0, hE⟩ := hv
  have hx := B.exec
  have hb := B.bytes
  have hr := B.returns
  have hts : ∀ w ∈ wG, w.before ([.ref oM, .int p0, .int p1, .int p2, .int p3] : List Value).toArray s = true := fun w h => atoms_spec (ws := Cond.code yX7_speaks cX7_speaks 6 (some .int) :: wG) B.pre w (List.mem_cons_of_mem _ h)
  have hown : s.vm.findClass RX7 = some m.cls := own_of B.named rfl
  have hlocks := B.notSynchronized
  subst hsz
  have hD := hD0.self (sz := s.heap.size)
  generalize hAe : va_A [(oc7 oM iM_thrown rM_tape iM_taped iM_size iM_at iM_end iM_token iM_whole iM_nameSize iM_fault iM_place iM_trouble rM_letters iM_failed iM_hasCourt rM_r rM_fresh rM_told rM_read rM_st rM_undone rM_kept iM_undos iM_images rM_fresher iM_fresherSize iM_scale iM_night rM_heardRow rM_cutRow iM_breaths iM_cutMany iM_allBreaths rM_trial rM_words iM_fewestBreaths iM_orderMany iM_orderSum iM_leastOrder rM_often iM_setMany iM_someOf iM_allOf iM_allWeight iM_enoughWeight iM_worthSum iM_firstRest iM_leastDrawn), (arI rM_r kM_r 287 fM_r)] s.heap.size = A at hD hE ⊢
  have hA : ∀ q : Nat, s.heap.size ≤ q → A q := fun q h => by rw [← hAe]; exact Or.inr h
  have hS : va_S A s.heap s.heap [] := va_S.rf
  have hl := lv_entry ([.ref oM, .int p0, .int p1, .int p2, .int p3]) (n := 6) (Nat.le_of_ble_eq_true rfl)
  rw [lg_entry_eq]
  generalize (lg_sl ([.ref oM, .int p0, .int p1, .int p2, .int p3]) ++ List.replicate (6 - (lg_sl ([.ref oM, .int p0, .int p1, .int p2, .int p3])).length) Slot.unset).toArray = ls at hl ⊢
  have hl : lv_has ls 6 [(0, .ref oM), (1, .int p0), (2, .int p1), (3, .int p2), (4, .int p3)] := hl
  have hG := PX7_speaks_eq iM_hasCourt p0 p1 p2 p3
  have s_slips := r_R.slips
  have s_nodes := r_R.nodes
  have s_uns := r_R.uns
  refine lv_aload_n hx hb dX7_speaks_0 rfl (lv_at hl 0 rfl) ?_
  have hMs := ml_of hD [true, false] (wc := [(oc7 oM iM_thrown rM_tape iM_taped iM_size iM_at iM_end iM_token iM_whole iM_nameSize iM_fault iM_place iM_trouble rM_letters iM_failed iM_hasCourt rM_r rM_fresh rM_told rM_read rM_st rM_undone rM_kept iM_undos iM_images rM_fresher iM_fresherSize iM_scale iM_night rM_heardRow rM_cutRow iM_breaths iM_cutMany iM_allBreaths rM_trial rM_words iM_fewestBreaths iM_orderMany iM_orderSum iM_leastOrder rM_often iM_setMany iM_someOf iM_allOf iM_allWeight iM_enoughWeight iM_worthSum iM_firstRest iM_leastDrawn)]) rfl
  have hFc := va_freeM hD hS hA _ hMs
  refine va_callv (va_runV (As := []) (rest := []) ⟨hx, hb, hml, hown, hts⟩ (tX7_good l dC dI _ oM iM_thrown rM_tape iM_taped iM_size iM_at iM_end iM_token iM_whole iM_nameSize iM_fault iM_place iM_trouble rM_letters iM_failed iM_hasCourt rM_r rM_fresh rM_told rM_read rM_st rM_undone rM_kept iM_undos iM_images rM_fresher iM_fresherSize iM_scale iM_night rM_heardRow rM_cutRow iM_breaths iM_cutMany iM_allBreaths rM_trial rM_words iM_fewestBreaths iM_orderMany iM_orderSum iM_leastOrder rM_often iM_setMany iM_someOf iM_allOf iM_allWeight iM_enoughWeight iM_worthSum iM_firstRest iM_leastDrawn b_iM_taped b_iM_size b_iM_end b_iM_failed b_iM_hasCourt b_iM_undos b_iM_images b_iM_scale b_iM_breaths b_iM_cutMany) (cwV 0 hts (wd_V wd_388 wd_389 wd_390 wd_5 (wd_c wd_391)) rfl rfl rfl dv_yX7_good_0 ⟨Nat.le_of_ble_eq_true rfl, Nat.le_of_ble_eq_true rfl⟩) ⟨Pw.fb, recvX7 hK hP (q0 := 0) rfl, fun U hU hW => Pw.to (hP.ms _ hMs) (hD.ms _ hMs) (hK.ms [false] rfl) hE hS hFc hU hW⟩ rfl rfl hl.1 rfl (lv_room (Nat.le_of_ble_eq_true rfl)) dX7_speaks_1 ⟨Nat.le_of_ble_eq_true rfl, Nat.le_of_ble_eq_true rfl⟩) hS (fun q _ h => hFc q h) hFc (fun u t H locs ht hvm hw hB hz1 hk1 hS => ?_)
  refine ex_2_3 hB (fun x_2944 x_2945 b_x_2944 b_x_2945 e_x_2944_0 hB => ?_)
  obtain ⟨hP, hD⟩ := Bw.goN (ws' := [(oc7 oM x_2944 rM_tape iM_taped iM_size iM_at iM_end iM_token iM_whole iM_nameSize iM_fault iM_place x_2945 rM_letters iM_failed iM_hasCourt rM_r rM_fresh rM_told rM_read rM_st rM_undone rM_kept iM_undos iM_images rM_fresher iM_fresherSize iM_scale iM_night rM_heardRow rM_cutRow iM_breaths iM_cutMany iM_allBreaths rM_trial rM_words iM_fewestBreaths iM_orderMany iM_orderSum iM_leastOrder rM_often iM_setMany iM_someOf iM_allOf iM_allWeight iM_enoughWeight iM_worthSum iM_firstRest iM_leastDrawn), (arI rM_r kM_r 287 fM_r)]) hB rfl ht hP hD _ hMs hk1 hFc rfl
  clear hz1 hk1 hvm ht hB hMs
  have hG := hG.trans (un2_eq e_x_2944_0)
  refine lv_aload_n hx hb dX7_speaks_4 rfl (lv_at hl 0 rfl) ?_
  refine lv_iload_n hx hb dX7_speaks_5 rfl (lv_at hl 1 rfl) ?_
  refine lv_iconst (v := 0) hx hb dX7_speaks_6 (by decide) ?_
  refine lv_bipush (v := 9) hx hb dX7_speaks_7 (by decide) ?_
  have hFc : ∀ q, va_A [] _ q → A q := fun q h => hA q (Nat.le_trans hS.1 (va_nilA h))
  refine va_calli (va_runS (As := [.int p0, .int 0, .int 9]) (rest := [.ref oM]) ⟨hx, hb, hml, hown, hts⟩ (tX7_in l dC dI _ p0 0 9 ) (va_cwS 3 hts (wd_S wd_393 wd_394 wd_5 (wd_c wd_395)) rfl rfl rfl ds_yX7_in_3 ⟨Nat.le_of_ble_eq_true rfl, Nat.le_of_ble_eq_true rfl⟩) ⟨Pw.fb, fun U hU hW => Pn.to hK hE hS hA hU hW⟩ rfl rfl hl.1 rfl (lv_room (Nat.le_of_ble_eq_true rfl)) dX7_speaks_9 ⟨Nat.le_of_ble_eq_true rfl, Nat.le_of_ble_eq_true rfl⟩) hS (fun q _ h => hFc q h) hFc (fun r u t H locs ht hvm hw hB hz1 hk1 hS => ?_)
  obtain ⟨hP, hD, hK⟩ := Bw.same ht hvm hP hD hK hk1 hFc
  clear hz1 hk1 hvm ht hB
  have hq9 := hw.2
  have hw := hw.1
  obtain ⟨x_2946, rfl⟩ : ∃ z, z = r := ⟨_, rfl⟩
  have hq_x_2946 := hq9
  have hG := hG.trans (lt_eq hq_x_2946.symm)
  have bx_2946 := hw.1
  have dx_2946 := bz_tb bx_2946
  have px_2946 := hw.2
  have hFc := va_freeI hD hS hA
  refine va_calli (va_runV (As := [.int x_2946]) (rest := []) ⟨hx, hb, hml, hown, hts⟩ (tX7_why l dC dI _ oM x_2944 rM_tape iM_taped iM_size iM_at iM_end iM_token iM_whole iM_nameSize iM_fault iM_place x_2945 rM_letters iM_failed iM_hasCourt rM_r fM_r kM_r rM_fresh rM_told rM_read rM_st rM_undone rM_kept iM_undos iM_images rM_fresher iM_fresherSize iM_scale iM_night rM_heardRow rM_cutRow iM_breaths iM_cutMany iM_allBreaths rM_trial rM_words iM_fewestBreaths iM_orderMany iM_orderSum iM_leastOrder rM_often iM_setMany iM_someOf iM_allOf iM_allWeight iM_enoughWeight iM_worthSum iM_firstRest iM_leastDrawn x_2946 b_iM_taped b_iM_size b_iM_end b_iM_failed b_iM_hasCourt b_iM_undos b_iM_images b_iM_scale b_iM_breaths b_iM_cutMany (by assumption) (by assumption) ⟨dx_2946.1, dx_2946.2⟩) (cwV 1 hts (wd_V wd_882 wd_883 wd_884 wd_5 (wd_c wd_885)) rfl rfl rfl dv_yX7_why_1 ⟨Nat.le_of_ble_eq_true rfl, Nat.le_of_ble_eq_true rfl⟩) ⟨Pw.fb, recvX7 hK hP (q0 := 0) rfl, fun U hU hW => Pw.to hP hD hK hE hS hFc hU hW⟩ rfl rfl hl.1 rfl (lv_room (Nat.le_of_ble_eq_true rfl)) dX7_speaks_12 ⟨Nat.le_of_ble_eq_true rfl, Nat.le_of_ble_eq_true rfl⟩) hS (fun q _ h => hFc q h) hFc (fun r u t H locs ht hvm hw hB hz1 hk1 hS => ?_)
  have hru9 := hw.2
  have hw := hw.1
  obtain ⟨hP, hD⟩ := Bw.goA (ws' := [(oc7 oM x_2944 rM_tape iM_taped iM_size iM_at iM_end iM_token iM_whole iM_nameSize iM_fault iM_place x_2945 rM_letters iM_failed iM_hasCourt rM_r rM_fresh rM_told rM_read rM_st rM_undone rM_kept iM_undos iM_images rM_fresher iM_fresherSize iM_scale iM_night rM_heardRow rM_cutRow iM_breaths iM_cutMany iM_allBreaths rM_trial rM_words iM_fewestBreaths iM_orderMany iM_orderSum iM_leastOrder rM_often iM_setMany iM_someOf iM_allOf iM_allWeight iM_enoughWeight iM_worthSum iM_firstRest iM_leastDrawn), (arI rM_r kM_r 287 fM_r)]) hB rfl ht hFc rfl
  clear hz1 hk1 hvm ht hB
  rcases hw.2 with ⟨rfl, hc_2947⟩ | ⟨rfl, hc_2947⟩ | ⟨rfl, hc_2947⟩
  · skip
    have hG := hG.trans (lt_eq hru9.symm)
    have hG := hG.trans (if_pos rfl)
    refine lv_istore (lv' := [(5, .int 0), (0, .ref oM), (1, .int p0), (2, .int p1), (3, .int p2), (4, .int p3)]) hx hb dX7_speaks_15 hl (by decide) rfl (fun ls hl => ?_)
    refine lv_iload hx hb dX7_speaks_17 (lv_at hl 0 rfl) ?_
    refine lv_if_ne (tgt := 43) hx hb dX7_speaks_19 (by decide) (fun c => absurd c (by decide)) (fun _ => ?_)
    refine lv_iload hx hb dX7_speaks_22 (lv_at hl 5 rfl) ?_
    refine lv_if_eq (tgt := 36) hx hb dX7_speaks_24 (by decide) (fun c_2950 => ?_) (fun c_2950 => ?_)
    · skip
      have hG := hG.trans (if_pos c_2950)
      have gc_2950 := ti_eq c_2950 rfl kc_0
      refine lv_iload_n hx hb dX7_speaks_36 rfl (lv_at hl 2 rfl) ?_
      refine lv_iload_n hx hb dX7_speaks_37 rfl (lv_at hl 3 rfl) ?_
      refine lv_iload_n hx hb dX7_speaks_38 rfl (lv_at hl 4 rfl) ?_
      have hFc : ∀ q, va_A [] _ q → A q := fun q h => hA q (Nat.le_trans hS.1 (va_nilA h))
      refine va_calli (va_runS (As := [.int p0, .int p1, .int p2]) (rest := []) ⟨hx, hb, hml, hown, hts⟩ (tX7_speaksOf l dC dI _ p0 p1 p2 ) (va_cwS 3 hts (wd_S wd_1297 wd_1298 wd_5 (wd_c wd_1299)) rfl rfl rfl ds_yX7_speaksOf_3 ⟨Nat.le_of_ble_eq_true rfl, Nat.le_of_ble_eq_true rfl⟩) ⟨Pw.fb, fun U hU hW => Pn.to hK hE hS hA hU hW⟩ rfl rfl hl.1 rfl (lv_room (Nat.le_of_ble_eq_true rfl)) dX7_speaks_39 ⟨Nat.le_of_ble_eq_true rfl, Nat.le_of_ble_eq_true rfl⟩) hS (fun q _ h => hFc q h) hFc (fun r u t H locs ht hvm hw hB hz1 hk1 hS => ?_)
      obtain ⟨hP, hD, hK⟩ := Bw.same ht hvm hP hD hK hk1 hFc
      clear hz1 hk1 hvm ht hB
      have hq9 := hw.2
      have hw := hw.1
      obtain ⟨x_2951, rfl⟩ : ∃ z, z = r := ⟨_, rfl⟩
      have hq_x_2951 := hq9
      have hG := hG.trans (lt_eq hq_x_2951.symm)
      exact wq_i hx hb hr (cI x_2951) ⟨⟨trivial, trivial⟩, (cI_of x_2951)⟩ (fun t ht hW => ⟨x_2944, x_2945, (cI_tup hG), Bw.to hP hD hK ht hW⟩) hS dX7_speaks_42 hlocks
    · skip
      have hG := hG.trans (if_neg c_2950)
      have gc_2950 := ti_ne c_2950 rfl kc_0
      refine lv_iload_n hx hb dX7_speaks_27 rfl (lv_at hl 2 rfl) ?_
      refine lv_iload_n hx hb dX7_speaks_28 rfl (lv_at hl 4 rfl) ?_
      refine lv_iload_n hx hb dX7_speaks_29 rfl (lv_at hl 3 rfl) ?_
      have hFc : ∀ q, va_A [] _ q → A q := fun q h => hA q (Nat.le_trans hS.1 (va_nilA h))
      refine va_calli (va_runS (As := [.int p0, .int p2, .int p1]) (rest := []) ⟨hx, hb, hml, hown, hts⟩ (tX7_speaksOf l dC dI _ p0 p2 p1 ) (va_cwS 3 hts (wd_S wd_1297 wd_1298 wd_5 (wd_c wd_1299)) rfl rfl rfl ds_yX7_speaksOf_3 ⟨Nat.le_of_ble_eq_true rfl, Nat.le_of_ble_eq_true rfl⟩) ⟨Pw.fb, fun U hU hW => Pn.to hK hE hS hA hU hW⟩ rfl rfl hl.1 rfl (lv_room (Nat.le_of_ble_eq_true rfl)) dX7_speaks_30 ⟨Nat.le_of_ble_eq_true rfl, Nat.le_of_ble_eq_true rfl⟩) hS (fun q _ h => hFc q h) hFc (fun r u t H locs ht hvm hw hB hz1 hk1 hS => ?_)
      obtain ⟨hP, hD, hK⟩ := Bw.same ht hvm hP hD hK hk1 hFc
      clear hz1 hk1 hvm ht hB
      have hq9 := hw.2
      have hw := hw.1
      obtain ⟨x_2952, rfl⟩ : ∃ z, z = r := ⟨_, rfl⟩
      have hq_x_2952 := hq9
      have hG := hG.trans (lt_eq hq_x_2952.symm)
      refine lv_goto (tgt := 42) hx hb dX7_speaks_33 (by decide) ?_
      exact wq_i hx hb hr (cI x_2952) ⟨⟨trivial, trivial⟩, (cI_of x_2952)⟩ (fun t ht hW => ⟨x_2944, x_2945, (cI_tup hG), Bw.to hP hD hK ht hW⟩) hS dX7_speaks_42 hlocks
  · skip
    have hG := hG.trans (lt_eq hru9.symm)
    have hG := hG.trans (if_neg (by decide))
    have hG := hG.trans (if_pos rfl)
    refine lv_istore (lv' := [(5, .int 1), (0, .ref oM), (1, .int p0), (2, .int p1), (3, .int p2), (4, .int p3)]) hx hb dX7_speaks_15 hl (by decide) rfl (fun ls hl => ?_)
    refine lv_iload hx hb dX7_speaks_17 (lv_at hl 0 rfl) ?_
    refine lv_if_ne (tgt := 43) hx hb dX7_speaks_19 (by decide) (fun _ => ?_) (fun c => absurd c (by decide))
    refine lv_aload_n hx hb dX7_speaks_43 rfl (lv_at hl 1 rfl) ?_
    refine lv_iload hx hb dX7_speaks_44 (lv_at hl 0 rfl) ?_
    refine va_put (D := (dC, dI)) (ci := 7) (v := .int 1) (ty := .int) (C := RX7) (T := TX7) (N := 48) hx hb hts inX7 tyX7 tyX7_ok nmX7 hown hK hP hD hS 0 rfl rfl 11 (by decide) (hts _ wd_392) (fun _ h9 => h9) rfl (by decide +kernel) rfl rfl (Nat.le_of_ble_eq_true rfl) dX7_speaks_46 (fun H locs hP hD hS => ?_)
    obtain ⟨hP, hD⟩ := wl2 (ws' := [(oc7 oM x_2944 rM_tape iM_taped iM_size iM_at iM_end iM_token iM_whole iM_nameSize iM_fault iM_place 1 rM_letters iM_failed iM_hasCourt rM_r rM_fresh rM_told rM_read rM_st rM_undone rM_kept iM_undos iM_images rM_fresher iM_fresherSize iM_scale iM_night rM_heardRow rM_cutRow iM_breaths iM_cutMany iM_allBreaths rM_trial rM_words iM_fewestBreaths iM_orderMany iM_orderSum iM_leastOrder rM_often iM_setMany iM_someOf iM_allOf iM_allWeight iM_enoughWeight iM_worthSum iM_firstRest iM_leastDrawn), (arI rM_r kM_r 287 fM_r)]) hP hD rfl
    refine lv_bipush (v := (-100)) hx hb dX7_speaks_49 (by decide) ?_
    exact wq_i hx hb hr (cI (-100)) ⟨⟨trivial, trivial⟩, (cI_of (-100))⟩ (fun t ht hW => ⟨x_2944, 1, (cI_tup hG), Bw.to hP hD hK ht hW⟩) hS dX7_speaks_51 hlocks
  · skip
    have hG := hG.trans (lt_eq hru9.symm)
    have hG := hG.trans (if_neg (by decide))
    have hG := hG.trans (if_neg (by decide))
    refine lv_istore (lv' := [(5, .int 2), (0, .ref oM), (1, .int p0), (2, .int p1), (3, .int p2), (4, .int p3)]) hx hb dX7_speaks_15 hl (by decide) rfl (fun ls hl => ?_)
    refine lv_iload hx hb dX7_speaks_17 (lv_at hl 0 rfl) ?_
    refine lv_if_ne (tgt := 43) hx hb dX7_speaks_19 (by decide) (fun _ => ?_) (fun c => absurd c (by decide))
    refine lv_aload_n hx hb dX7_speaks_43 rfl (lv_at hl 1 rfl) ?_
    refine lv_iload hx hb dX7_speaks_44 (lv_at hl 0 rfl) ?_
    refine va_put (D := (dC, dI)) (ci := 7) (v := .int 2) (ty := .int) (C := RX7) (T := TX7) (N := 48) hx hb hts inX7 tyX7 tyX7_ok nmX7 hown hK hP hD hS 0 rfl rfl 11 (by decide) (hts _ wd_392) (fun _ h9 => h9) rfl (by decide +kernel) rfl rfl (Nat.le_of_ble_eq_true rfl) dX7_speaks_46 (fun H locs hP hD hS => ?_)
    obtain ⟨hP, hD⟩ := wl2 (ws' := [(oc7 oM x_2944 rM_tape iM_taped iM_size iM_at iM_end iM_token iM_whole iM_nameSize iM_fault iM_place 2 rM_letters iM_failed iM_hasCourt rM_r rM_fresh rM_told rM_read rM_st rM_undone rM_kept iM_undos iM_images rM_fresher iM_fresherSize iM_scale iM_night rM_heardRow rM_cutRow iM_breaths iM_cutMany iM_allBreaths rM_trial rM_words iM_fewestBreaths iM_orderMany iM_orderSum iM_leastOrder rM_often iM_setMany iM_someOf iM_allOf iM_allWeight iM_enoughWeight iM_worthSum iM_firstRest iM_leastDrawn), (arI rM_r kM_r 287 fM_r)]) hP hD rfl
    refine lv_bipush (v := (-100)) hx hb dX7_speaks_49 (by decide) ?_
    exact wq_i hx hb hr (cI (-100)) ⟨⟨trivial, trivial⟩, (cI_of (-100))⟩ (fun t ht hW => ⟨x_2944, 2, (cI_tup hG), Bw.to hP hD hK ht hW⟩) hS dX7_speaks_51 hlocks
set_option maxHeartbeats 4000000 in
set_option maxRecDepth 100000 in
theorem tX7_seekRests (l : Launch) (dC : Nat → ClassId) (dI : Nat → Nat → Nat) (sz : Nat) (oM : Nat) (iM_thrown : Int32) (rM_tape : Nat) (iM_taped : Int32) (iM_size : Int32) (iM_at : Int32) (iM_end : Int32) (iM_token : Int32) (iM_whole : Int32) (iM_nameSize : Int32) (iM_fault : Int32) (iM_place : Int32) (iM_trouble : Int32) (rM_letters : Nat) (iM_failed : Int32) (iM_hasCourt : Int32) (rM_r : Nat) (rM_fresh : Nat) (rM_told : Nat) (rM_read : Nat) (rM_st : Nat) (rM_undone : Nat) (rM_kept : Nat) (iM_undos : Int32) (iM_images : Int32) (rM_fresher : Nat) (iM_fresherSize : Int32) (iM_scale : Int32) (iM_night : Int32) (rM_heardRow : Nat) (rM_cutRow : Nat) (iM_breaths : Int32) (iM_cutMany : Int32) (iM_allBreaths : Int32) (rM_trial : Nat) (rM_words : Nat) (iM_fewestBreaths : Int32) (iM_orderMany : Int32) (iM_orderSum : Int32) (iM_leastOrder : Int32) (rM_often : Nat) (iM_setMany : Int32) (iM_someOf : Int32) (iM_allOf : Int32) (iM_allWeight : Int64) (iM_enoughWeight : Int64) (iM_worthSum : Int64) (iM_firstRest : Int32) (iM_leastDrawn : Int32) (p0 : Int32) (b_iM_taped : 0 ≤ iM_taped.toInt ∧ iM_taped.toInt ≤ 900) (b_iM_size : 0 ≤ iM_size.toInt ∧ iM_size.toInt ≤ 900) (b_iM_end : 0 ≤ iM_end.toInt ∧ iM_end.toInt ≤ 900) (b_iM_failed : 0 ≤ iM_failed.toInt ∧ iM_failed.toInt ≤ 1) (b_iM_hasCourt : 0 ≤ iM_hasCourt.toInt ∧ iM_hasCourt.toInt ≤ 1) (b_iM_undos : 0 ≤ iM_undos.toInt ∧ iM_undos.toInt ≤ 16) (b_iM_images : 0 ≤ iM_images.toInt ∧ iM_images.toInt ≤ 3) (b_iM_scale : 1 ≤ iM_scale.toInt ∧ iM_scale.toInt ≤ 1296) (b_iM_breaths : 0 ≤ iM_breaths.toInt ∧ iM_breaths.toInt ≤ 399) (b_iM_cutMany : 0 ≤ iM_cutMany.toInt ∧ iM_cutMany.toInt ≤ 399)  : Met l yX7_seekRests (Cond.code yX7_seekRests cX7_seekRests 6 (some .int) :: wG) ({ frames := 1, cells := 0, slots := 0, locals := 22 }) (va_Pc [.ref oM, .int p0] (Pw dC dI sz [(oc7 oM iM_thrown rM_tape iM_taped iM_size iM_at iM_end iM_token iM_whole iM_nameSize iM_fault iM_place iM_trouble rM_letters iM_failed iM_hasCourt rM_r rM_fresh rM_told rM_read rM_st rM_undone rM_kept iM_undos iM_images rM_fresher iM_fresherSize iM_scale iM_night rM_heardRow rM_cutRow iM_breaths iM_cutMany iM_allBreaths rM_trial rM_words iM_fewestBreaths iM_orderMany iM_orderSum iM_leastOrder rM_often iM_setMany iM_someOf iM_allOf iM_allWeight iM_enoughWeight iM_worthSum iM_firstRest iM_leastDrawn)] [])) (va_Qi (fun (r : Int32) (u : Nat) => (True ∧ True) ∧ r = Int32.ofNat u) (fun (u : Nat) (t : State) => ∃ (niM_firstRest : Int32), (PX7_seekRests p0 = (Int32.ofNat u, niM_firstRest)) ∧ Bw dC dI (va_A [(oc7 oM iM_thrown rM_tape iM_taped iM_size iM_at iM_end iM_token iM_whole iM_nameSize iM_fault iM_place iM_trouble rM_letters iM_failed iM_hasCourt rM_r rM_fresh rM_told rM_read rM_st rM_undone rM_kept iM_undos iM_images rM_fresher iM_fresherSize iM_scale iM_night rM_heardRow rM_cutRow iM_breaths iM_cutMany iM_allBreaths rM_trial rM_words iM_fewestBreaths iM_orderMany iM_orderSum iM_leastOrder rM_often iM_setMany iM_someOf iM_allOf iM_allWeight iM_enoughWeight iM_worthSum iM_firstRest iM_leastDrawn)] sz) [(oc7 oM iM_thrown rM_tape iM_taped iM_size iM_at iM_end iM_token iM_whole iM_nameSize iM_fault iM_place iM_trouble rM_letters iM_failed iM_hasCourt rM_r rM_fresh rM_told rM_read rM_st rM_undone rM_kept iM_undos iM_images rM_fresher iM_fresherSize iM_scale iM_night rM_heardRow rM_cutRow iM_breaths iM_cutMany iM_allBreaths rM_trial rM_words iM_fewestBreaths iM_orderMany iM_orderSum iM_leastOrder rM_often iM_setMany iM_someOf iM_allOf iM_allWeight iM_enoughWeight iM_worthSum niM_firstRest iM_leastDrawn)] [] t) (va_A [(oc7 oM iM_thrown rM_tape iM_taped iM_size iM_at iM_end iM_token iM_whole iM_nameSize iM_fault iM_place iM_trouble rM_letters iM_failed iM_hasCourt rM_r rM_fresh rM_told rM_read rM_st rM_undone rM_kept iM_undos iM_images rM_fresher iM_fresherSize iM_scale iM_night rM_heardRow rM_cutRow iM_breaths iM_cutMany iM_allBreaths rM_trial rM_words iM_fewestBreaths iM_orderMany iM_orderSum iM_leastOrder rM_often iM_setMany iM_someOf iM_allOf iM_allWeight iM_enoughWeight iM_worthSum iM_firstRest iM_leastDrawn)] sz)) 0 0 (va_A [(oc7 oM iM_thrown rM_tape iM_taped iM_size iM_at iM_end iM_token iM_whole iM_nameSize iM_fault iM_place iM_trouble rM_letters iM_failed iM_hasCourt rM_r rM_fresh rM_told rM_read rM_st rM_undone rM_kept iM_undos iM_images rM_fresher iM_fresherSize iM_scale iM_night rM_heardRow rM_cutRow iM_breaths iM_cutMany iM_allBreaths rM_trial rM_words iM_fewestBreaths iM_orderMany iM_orderSum iM_leastOrder rM_often iM_setMany iM_someOf iM_allOf iM_allWeight iM_enoughWeight iM_worthSum iM_firstRest iM_leastDrawn)] sz) := by
  refine Met.ofW (cc := cX7_seekRests) (maxL := 6) (ret := (some .int)) pnX7 rfl ?_
  intro p e s m args below meth c s₁ B hml hv
  obtain ⟨rfl, hsz, hP, hK, hD0, hE⟩ := hv
  have hx := B.exec
  have hb := B.bytes
  have hr := B.returns
  have hts : ∀ w ∈ wG, w.before ([.ref oM, .int p0] : List Value).toArray s = true := fun w h => atoms_spec (ws := Cond.code yX7_seekRests cX7_seekRests 6 (some .int) :: wG) B.pre w (List.mem_cons_of_mem _ h)
  have hown : s.vm.findClass RX7 = some m.cls := own_of B.named rfl
  have hlocks := B.notSynchronized
  subst hsz
  have hD := hD0.self (sz := s.heap.size)
  generalize hAe : va_A [(oc7 oM iM_thrown rM_tape iM_taped iM_size iM_at iM_end iM_token iM_whole iM_nameSize iM_fault iM_place iM_trouble rM_letters iM_failed iM_hasCourt rM_r rM_fresh rM_told rM_read rM_st rM_undone rM_kept iM_undos iM_images rM_fresher iM_fresherSize iM_scale iM_night rM_heardRow rM_cutRow iM_breaths iM_cutMany iM_allBreaths rM_trial rM_words iM_fewestBreaths iM_orderMany iM_orderSum iM_leastOrder rM_often iM_setMany iM_someOf iM_allOf iM_allWeight iM_enoughWeight iM_worthSum iM_firstRest iM_leastDrawn)] s.heap.size = A at hD hE ⊢
  have hA : ∀ q : Nat, s.heap.size ≤ q → A q := fun q h => by rw [← hAe]; exact Or.inr h
  have hS : va_S A s.heap s.heap [] := va_S.rf
  have hl := lv_entry ([.ref oM, .int p0]) (n := 6) (Nat.le_of_ble_eq_true rfl)
  rw [lg_entry_eq]
  generalize (lg_sl ([.ref oM, .int p0]) ++ List.replicate (6 - (lg_sl ([.ref oM, .int p0])).length) Slot.unset).toArray = ls at hl ⊢
  have hl : lv_has ls 6 [(0, .ref oM), (1, .int p0)] := hl
  have hG := PX7_seekRests_eq p0
  have rg_p0 := fb_rng p0
  refine lv_iconst (v := 0) hx hb dX7_seekRests_0 (by decide) ?_
  refine lv_istore_n (lv' := [(2, .int 0), (0, .ref oM), (1, .int p0)]) hx hb dX7_seekRests_1 rfl hl (by decide) rfl (fun ls hl => ?_)
  refine lv_aload_n hx hb dX7_seekRests_2 rfl (lv_at hl 1 rfl) ?_
  refine lv_bipush (v := (-2)) hx hb dX7_seekRests_3 (by decide) ?_
  refine va_put (D := (dC, dI)) (ci := 7) (v := .int (-2)) (ty := .int) (C := RX7) (T := TX7) (N := 48) hx hb hts inX7 tyX7 tyX7_ok nmX7 hown hK hP hD hS 0 rfl rfl 46 (by decide) (hts _ wd_1315) (fun _ h9 => h9) rfl (by decide +kernel) rfl rfl (Nat.le_of_ble_eq_true rfl) dX7_seekRests_5 (fun H locs hP hD hS => ?_)
  obtain ⟨hP, hD⟩ := wl2 (ws' := [(oc7 oM iM_thrown rM_tape iM_taped iM_size iM_at iM_end iM_token iM_whole iM_nameSize iM_fault iM_place iM_trouble rM_letters iM_failed iM_hasCourt rM_r rM_fresh rM_told rM_read rM_st rM_undone rM_kept iM_undos iM_images rM_fresher iM_fresherSize iM_scale iM_night rM_heardRow rM_cutRow iM_breaths iM_cutMany iM_allBreaths rM_trial rM_words iM_fewestBreaths iM_orderMany iM_orderSum iM_leastOrder rM_often iM_setMany iM_someOf iM_allOf iM_allWeight iM_enoughWeight iM_worthSum (-2) iM_leastDrawn)]) hP hD rfl
  refine lv_iconst (v := 0) hx hb dX7_seekRests_8 (by decide) ?_
  refine lv_istore_n (lv' := [(3, .int 0), (2, .int 0), (0, .ref oM), (1, .int p0)]) hx hb dX7_seekRests_9 rfl hl (by decide) rfl (fun ls hl => ?_)
  have hl := lv_sub hl (l' := [(3, .int 0), (2, .int 0), (0, .ref oM), (1, .int p0)]) [0, 1, 2, 3] rfl
  have key_n_3066 : ∀ (n_3066 : Nat) (z_3063 : Int32) (z_3064 : Int32) (z_3065 : Int32) (H : Heap) (locs : List Loc) (ls : Array Slot), (0 ≤ z_3063.toInt ∧ z_3063.toInt ≤ 2147483647) → (2147483647 - z_3063.toInt).toNat < n_3066 → (PX7_seekRests p0 = HX7_seekRests_0 p0 n_3066 z_3063 z_3064 z_3065) → va_P (dC, dI) vwCl [(oc7 oM iM_thrown rM_tape iM_taped iM_size iM_at iM_end iM_token iM_whole iM_nameSize iM_fault iM_place iM_trouble rM_letters iM_failed iM_hasCourt rM_r rM_fresh rM_told rM_read rM_st rM_undone rM_kept iM_undos iM_images rM_fresher iM_fresherSize iM_scale iM_night rM_heardRow rM_cutRow iM_breaths iM_cutMany iM_allBreaths rM_trial rM_words iM_fewestBreaths iM_orderMany iM_orderSum iM_leastOrder rM_often iM_setMany iM_someOf iM_allOf iM_allWeight iM_enoughWeight iM_worthSum z_3065 iM_leastDrawn)] H → va_D A [(oc7 oM iM_thrown rM_tape iM_taped iM_size iM_at iM_end iM_token iM_whole iM_nameSize iM_fault iM_place iM_trouble rM_letters iM_failed iM_hasCourt rM_r rM_fresh rM_told rM_read rM_st rM_undone rM_kept iM_undos iM_images rM_fresher iM_fresherSize iM_scale iM_night rM_heardRow rM_cutRow iM_breaths iM_cutMany iM_allBreaths rM_trial rM_words iM_fewestBreaths iM_orderMany iM_orderSum iM_leastOrder rM_often iM_setMany iM_someOf iM_allOf iM_allWeight iM_enoughWeight iM_worthSum z_3065 iM_leastDrawn)] → va_S A s.heap H locs → lv_has ls 6 [(3, .int z_3063), (2, .int z_3064), (0, .ref oM), (1, .int p0)] → W p l e (headSpec (Cond.code yX7_seekRests cX7_seekRests 6 (some .int) :: wG) ({ frames := 1, cells := 0, slots := 0, locals := 22 })).room s m ([.ref oM, .int p0] : List Value).toArray below meth c H locs 0 0 (MQ below (va_Qi (fun (r : Int32) (u : Nat) => (True ∧ True) ∧ r = Int32.ofNat u) (fun (u : Nat) (t : State) => ∃ (niM_firstRest : Int32), (PX7_seekRests p0 = (Int32.ofNat u, niM_firstRest)) ∧ Bw dC dI A [(oc7 oM iM_thrown rM_tape iM_taped iM_size iM_at iM_end iM_token iM_whole iM_nameSize iM_fault iM_place iM_trouble rM_letters iM_failed iM_hasCourt rM_r rM_fresh rM_told rM_read rM_st rM_undone rM_kept iM_undos iM_images rM_fresher iM_fresherSize iM_scale iM_night rM_heardRow rM_cutRow iM_breaths iM_cutMany iM_allBreaths rM_trial rM_words iM_fewestBreaths iM_orderMany iM_orderSum iM_leastOrder rM_often iM_setMany iM_someOf iM_allOf iM_allWeight iM_enoughWeight iM_worthSum niM_firstRest iM_leastDrawn)] [] t) A) ([.ref oM, .int p0] : List Value).toArray s 0 0 A) (F0 m 10 ls []) := by
    intro n_3066
    induction n_3066 with
    | zero => intro z_3063 z_3064 z_3065 H locs ls hi0_n_3066 hm; exact absurd hm (Nat.not_lt_zero _)
    | succ n_3066 ih_n_3066 =>
      intro z_3063 z_3064 z_3065 H locs ls hi0_n_3066 hm_n_3066 hG hP hD hS hl
      have hG := hG.trans (HX7_seekRests_0_eq _ _ _ _ _)
      have rg_z_3063 := fb_rng z_3063
      have rg_z_3064 := fb_rng z_3064
      have rg_z_3065 := fb_rng z_3065
      refine lv_iload_n hx hb dX7_seekRests_10 rfl (lv_at hl 0 rfl) ?_
      refine lv_iconst (v := 4) hx hb dX7_seekRests_11 (by decide) ?_
      refine lv_icmp_ge (tgt := 125) hx hb dX7_seekRests_12 (by decide) (fun c_3067 => ?_) (fun c_3067 => ?_)
      · skip
        have hG := hG.trans (if_pos c_3067)
        have gc_3067 := ti_le c_3067 kc_4 rfl
        refine lv_iload_n hx hb dX7_seekRests_125 rfl (lv_at hl 1 rfl) ?_
        exact wq_i hx hb hr (cI z_3064) ⟨⟨trivial, trivial⟩, (cI_of z_3064)⟩ (fun t ht hW => ⟨z_3065, (cI_tup hG), Bw.to hP hD hK ht hW⟩) hS dX7_seekRests_126 hlocks
      · skip
        have hG := hG.trans (if_neg c_3067)
        have gc_3067 := ti_nle c_3067 kc_4 rfl
        refine lv_iload_n hx hb dX7_seekRests_15 rfl (lv_at hl 0 rfl) ?_
        refine lv_iconst (v := 1) hx hb dX7_seekRests_16 (by decide) ?_
        refine lv_icmp_le (tgt := 24) hx hb dX7_seekRests_17 (by decide) (fun c_3068 => ?_) (fun c_3068 => ?_)
        · skip
          have hG := hG.trans (if_pos c_3068)
          have gc_3068 := ti_le c_3068 rfl kc_1
          refine lv_iconst (v := 0) hx hb dX7_seekRests_24 (by decide) ?_
          refine lv_istore (lv' := [(4, .int 0), (3, .int z_3063), (2, .int z_3064), (0, .ref oM), (1, .int p0)]) hx hb dX7_seekRests_25 hl (by decide) rfl (fun ls hl => ?_)
          refine lv_iload_n hx hb dX7_seekRests_27 rfl (lv_at hl 1 rfl) ?_
          refine lv_iconst (v := 2) hx hb dX7_seekRests_28 (by decide) ?_
          refine lv_irem hx hb dX7_seekRests_29 (by decide) ?_
          refine lv_topi (fun x_3069 ex_3069 => ?_)
          have hG := hG.trans (lt_eq ex_3069)
          have rg_x_3069 := fb_rng x_3069
          have qx_3069 := ti_rem ex_3069 rfl kc_2 hi0_n_3066.1 (by decide)
          have Qx_3069 := ti_remE ex_3069 rfl kc_2 hi0_n_3066.1 (by decide)
          refine lv_iconst (v := 1) hx hb dX7_seekRests_30 (by decide) ?_
          refine lv_icmp_ne (tgt := 38) hx hb dX7_seekRests_31 (by decide) (fun c_3070 => ?_) (fun c_3070 => ?_)
          · skip
            have hG := hG.trans (if_neg c_3070)
            have gc_3070 := ti_ne c_3070 rfl kc_1
            refine lv_iconst (v := 0) hx hb dX7_seekRests_38 (by decide) ?_
            refine lv_istore (lv' := [(5, .int 0), (4, .int 0), (3, .int z_3063), (2, .int z_3064), (0, .ref oM), (1, .int p0)]) hx hb dX7_seekRests_39 hl (by decide) rfl (fun ls hl => ?_)
            refine lv_iload_n hx hb dX7_seekRests_41 rfl (lv_at hl 5 rfl) ?_
            refine lv_iload hx hb dX7_seekRests_42 (lv_at hl 1 rfl) ?_
            refine lv_if_ne (tgt := 51) hx hb dX7_seekRests_44 (by decide) (fun c => absurd c (by decide)) (fun _ => ?_)
            refine lv_iconst (v := 1) hx hb dX7_seekRests_47 (by decide) ?_
            refine lv_goto (tgt := 52) hx hb dX7_seekRests_48 (by decide) ?_
            refine lv_iload hx hb dX7_seekRests_52 (lv_at hl 0 rfl) ?_
            have hFc : ∀ q, va_A [] _ q → A q := fun q h => hA q (Nat.le_trans hS.1 (va_nilA h))
            refine va_calli (va_runS (As := [.int p0, .int 1, .int 0]) (rest := []) ⟨hx, hb, hml, hown, hts⟩ (tX7_speaksOf l dC dI _ p0 1 0 ) (va_cwS 3 hts (wd_S wd_1297 wd_1298 wd_5 (wd_c wd_1299)) rfl rfl rfl ds_yX7_speaksOf_3 ⟨Nat.le_of_ble_eq_true rfl, Nat.le_of_ble_eq_true rfl⟩) ⟨Pw.fb, fun U hU hW => Pn.to hK hE hS hA hU hW⟩ rfl rfl hl.1 rfl (lv_room (Nat.le_of_ble_eq_true rfl)) dX7_seekRests_54 ⟨Nat.le_of_ble_eq_true rfl, Nat.le_of_ble_eq_true rfl⟩) hS (fun q _ h => hFc q h) hFc (fun r u t H locs ht hvm hw hB hz1 hk1 hS => ?_)
            obtain ⟨hP, hD, hK⟩ := Bw.same ht hvm hP hD hK hk1 hFc
            clear hz1 hk1 hvm ht hB
            have hq9 := hw.2
            have hw := hw.1
            obtain ⟨x_3072, rfl⟩ : ∃ z, z = r := ⟨_, rfl⟩
            have hq_x_3072 := hq9
            have hG := hG.trans (lt_eq hq_x_3072.symm)
            have rg_x_3072 := fb_rng x_3072
            refine lv_iload_n hx hb dX7_seekRests_57 rfl (lv_at hl 5 rfl) ?_
            refine lv_iload hx hb dX7_seekRests_58 (lv_at hl 1 rfl) ?_
            refine lv_iload hx hb dX7_seekRests_60 (lv_at hl 0 rfl) ?_
            have hFc : ∀ q, va_A [] _ q → A q := fun q h => hA q (Nat.le_trans hS.1 (va_nilA h))
            refine va_calli (va_runS (As := [.int p0, .int 0, .int 0]) (rest := [.int x_3072]) ⟨hx, hb, hml, hown, hts⟩ (tX7_speaksOf l dC dI _ p0 0 0 ) (va_cwS 3 hts (wd_S wd_1297 wd_1298 wd_5 (wd_c wd_1299)) rfl rfl rfl ds_yX7_speaksOf_3 ⟨Nat.le_of_ble_eq_true rfl, Nat.le_of_ble_eq_true rfl⟩) ⟨Pw.fb, fun U hU hW => Pn.to hK hE hS hA hU hW⟩ rfl rfl hl.1 rfl (lv_room (Nat.le_of_ble_eq_true rfl)) dX7_seekRests_62 ⟨Nat.le_of_ble_eq_true rfl, Nat.le_of_ble_eq_true rfl⟩) hS (fun q _ h => hFc q h) hFc (fun r u t H locs ht hvm hw hB hz1 hk1 hS => ?_)
            obtain ⟨hP, hD, hK⟩ := Bw.same ht hvm hP hD hK hk1 hFc
            clear hz1 hk1 hvm ht hB
            have hq9 := hw.2
            have hw := hw.1
            obtain ⟨x_3073, rfl⟩ : ∃ z, z = r := ⟨_, rfl⟩
            have hq_x_3073 := hq9
            have hG := hG.trans (lt_eq hq_x_3073.symm)
            have rg_x_3073 := fb_rng x_3073
            refine lv_icmp_gt (tgt := 119) hx hb dX7_seekRests_65 (by decide) (fun c_3074 => ?_) (fun c_3074 => ?_)
            · skip
              have hG := hG.trans (if_pos c_3074)
              have gc_3074 := ti_lt c_3074 rfl rfl
              obtain ⟨x_3075, ex_3075⟩ : ∃ z : Int32, z = z_3063 + Int32.ofInt 1 := ⟨_, rfl⟩
              have hG := hG.trans (lt_eq ex_3075)
              have vx_3075 : x_3075.toInt = z_3063.toInt + 1 := ti_add (y := 1) ex_3075 rfl kc_1 (om_4e4fce7e hi0_n_3066.1) (om_71ed274a gc_3067)
              refine lv_iinc (v := x_3075) (lv' := [(3, .int x_3075), (5, .int 0), (4, .int 0), (2, .int z_3064), (0, .ref oM), (1, .int p0)]) hx hb dX7_seekRests_119 hl (k := 2) rfl ex_3075.symm (by decide) rfl (fun ls hl => ?_)
              refine lv_goto (tgt := 10) hx hb dX7_seekRests_122 (by decide) ?_
              exact ih_n_3066 x_3075 z_3064 z_3065 _ _ _  ⟨(om_83b90de5 hi0_n_3066.1 vx_3075), (om_d99ff3f9 gc_3067 vx_3075)⟩ (ms_lt hm_n_3066 (om_b9393183 vx_3075) (om_50af1673 gc_3067)) hG hP hD hS (lv_sub hl [0, 3, 4, 5] rfl)
            · skip
              have hG := hG.trans (if_neg c_3074)
              have gc_3074 := ti_nlt c_3074 rfl rfl
              refine lv_iload_n hx hb dX7_seekRests_68 rfl (lv_at hl 5 rfl) ?_
              refine lv_iload hx hb dX7_seekRests_69 (lv_at hl 0 rfl) ?_
              refine lv_if_ne (tgt := 78) hx hb dX7_seekRests_71 (by decide) (fun c => absurd c (by decide)) (fun _ => ?_)
              refine lv_iconst (v := 1) hx hb dX7_seekRests_74 (by decide) ?_
              refine lv_goto (tgt := 79) hx hb dX7_seekRests_75 (by decide) ?_
              refine lv_iload hx hb dX7_seekRests_79 (lv_at hl 1 rfl) ?_
              have hFc : ∀ q, va_A [] _ q → A q := fun q h => hA q (Nat.le_trans hS.1 (va_nilA h))
              refine va_calli (va_runS (As := [.int p0, .int 1, .int 0]) (rest := []) ⟨hx, hb, hml, hown, hts⟩ (tX7_speaksOf l dC dI _ p0 1 0 ) (va_cwS 3 hts (wd_S wd_1297 wd_1298 wd_5 (wd_c wd_1299)) rfl rfl rfl ds_yX7_speaksOf_3 ⟨Nat.le_of_ble_eq_true rfl, Nat.le_of_ble_eq_true rfl⟩) ⟨Pw.fb, fun U hU hW => Pn.to hK hE hS hA hU hW⟩ rfl rfl hl.1 rfl (lv_room (Nat.le_of_ble_eq_true rfl)) dX7_seekRests_81 ⟨Nat.le_of_ble_eq_true rfl, Nat.le_of_ble_eq_true rfl⟩) hS (fun q _ h => hFc q h) hFc (fun r u t H locs ht hvm hw hB hz1 hk1 hS => ?_)
              obtain ⟨hP, hD, hK⟩ := Bw.same ht hvm hP hD hK hk1 hFc
              clear hz1 hk1 hvm ht hB
              have hq9 := hw.2
              have hw := hw.1
              obtain ⟨x_3077, rfl⟩ : ∃ z, z = r := ⟨_, rfl⟩
              have hq_x_3077 := hq9
              have hG := hG.trans (lt_eq hq_x_3077.symm)
              have rg_x_3077 := fb_rng x_3077
              refine lv_iload_n hx hb dX7_seekRests_84 rfl (lv_at hl 5 rfl) ?_
              refine lv_iload hx hb dX7_seekRests_85 (lv_at hl 0 rfl) ?_
              refine lv_iload hx hb dX7_seekRests_87 (lv_at hl 1 rfl) ?_
              have hFc : ∀ q, va_A [] _ q → A q := fun q h => hA q (Nat.le_trans hS.1 (va_nilA h))
              refine va_calli (va_runS (As := [.int p0, .int 0, .int 0]) (rest := [.int x_3077]) ⟨hx, hb, hml, hown, hts⟩ (tX7_speaksOf l dC dI _ p0 0 0 ) (va_cwS 3 hts (wd_S wd_1297 wd_1298 wd_5 (wd_c wd_1299)) rfl rfl rfl ds_yX7_speaksOf_3 ⟨Nat.le_of_ble_eq_true rfl, Nat.le_of_ble_eq_true rfl⟩) ⟨Pw.fb, fun U hU hW => Pn.to hK hE hS hA hU hW⟩ rfl rfl hl.1 rfl (lv_room (Nat.le_of_ble_eq_true rfl)) dX7_seekRests_89 ⟨Nat.le_of_ble_eq_true rfl, Nat.le_of_ble_eq_true rfl⟩) hS (fun q _ h => hFc q h) hFc (fun r u t H locs ht hvm hw hB hz1 hk1 hS => ?_)
              obtain ⟨hP, hD, hK⟩ := Bw.same ht hvm hP hD hK hk1 hFc
              clear hz1 hk1 hvm ht hB
              have hq9 := hw.2
              have hw := hw.1
              obtain ⟨x_3078, rfl⟩ : ∃ z, z = r := ⟨_, rfl⟩
              have hq_x_3078 := hq9
              have hG := hG.trans (lt_eq hq_x_3078.symm)
              have rg_x_3078 := fb_rng x_3078
              refine lv_icmp_le (tgt := 98) hx hb dX7_seekRests_92 (by decide) (fun c_3079 => ?_) (fun c_3079 => ?_)
              · skip
                have hG := hG.trans (if_pos c_3079)
                have gc_3079 := ti_le c_3079 rfl rfl
                refine lv_iload_n hx hb dX7_seekRests_98 rfl (lv_at hl 3 rfl) ?_
                refine lv_if_ne (tgt := 116) hx hb dX7_seekRests_99 (by decide) (fun c_3080 => ?_) (fun c_3080 => ?_)
                · skip
                  have hG := hG.trans (if_neg c_3080)
                  have gc_3080 := ti_ne c_3080 rfl kc_0
                  obtain ⟨x_3081, ex_3081⟩ : ∃ z : Int32, z = z_3064 + Int32.ofInt 1 := ⟨_, rfl⟩
                  have hG := hG.trans (lt_eq ex_3081)
                  have rg_x_3081 := fb_rng x_3081
                  refine lv_iinc (v := x_3081) (lv' := [(2, .int x_3081), (5, .int 0), (4, .int 0), (3, .int z_3063), (0, .ref oM), (1, .int p0)]) hx hb dX7_seekRests_116 hl (k := 3) rfl ex_3081.symm (by decide) rfl (fun ls hl => ?_)
                  obtain ⟨x_3082, ex_3082⟩ : ∃ z : Int32, z = z_3063 + Int32.ofInt 1 := ⟨_, rfl⟩
                  have hG := hG.trans (lt_eq ex_3082)
                  have vx_3082 : x_3082.toInt = z_3063.toInt + 1 := ti_add (y := 1) ex_3082 rfl kc_1 (om_4e4fce7e hi0_n_3066.1) (om_71ed274a gc_3067)
                  refine lv_iinc (v := x_3082) (lv' := [(3, .int x_3082), (2, .int x_3081), (5, .int 0), (4, .int 0), (0, .ref oM), (1, .int p0)]) hx hb dX7_seekRests_119 hl (k := 3) rfl ex_3082.symm (by decide) rfl (fun ls hl => ?_)
                  refine lv_goto (tgt := 10) hx hb dX7_seekRests_122 (by decide) ?_
                  exact ih_n_3066 x_3082 x_3081 z_3065 _ _ _  ⟨(om_83b90de5 hi0_n_3066.1 vx_3082), (om_d99ff3f9 gc_3067 vx_3082)⟩ (ms_lt hm_n_3066 (om_b9393183 vx_3082) (om_50af1673 gc_3067)) hG hP hD hS (lv_sub hl [0, 1, 4, 5] rfl)
                · skip
                  have hG := hG.trans (if_pos c_3080)
                  have gc_3080 := ti_eq c_3080 rfl kc_0
                  refine lv_aload_n hx hb dX7_seekRests_102 rfl (lv_at hl 4 rfl) ?_
                  refine lv_bipush (v := 10) hx hb dX7_seekRests_103 (by decide) ?_
                  refine lv_iload_n hx hb dX7_seekRests_105 rfl (lv_at hl 2 rfl) ?_
                  refine lv_iconst (v := 2) hx hb dX7_seekRests_106 (by decide) ?_
                  refine lv_idiv hx hb dX7_seekRests_107 (by decide) ?_
                  refine lv_topi (fun x_3083 ex_3083 => ?_)
                  have hG := hG.trans (lt_eq ex_3083)
                  have rg_x_3083 := fb_rng x_3083
                  have qx_3083 := ti_div ex_3083 rfl kc_2 hi0_n_3066.1 (by decide)
                  have Qx_3083 := ti_divE ex_3083 rfl kc_2 hi0_n_3066.1 (by decide)
                  refine lv_imul hx hb dX7_seekRests_108 ?_
                  refine lv_topi (fun x_3084 ex_3084 => ?_)
                  have hG := hG.trans (lt_eq ex_3084)
                  have vx_3084 : x_3084.toInt = 10 * x_3083.toInt := ti_mul ex_3084 kc_10 rfl (om_01615985 qx_3083.1) (om_e51e3a41 gc_3067 qx_3083.2)
                  refine lv_iload_n hx hb dX7_seekRests_109 rfl (lv_at hl 2 rfl) ?_
                  refine lv_iconst (v := 2) hx hb dX7_seekRests_110 (by decide) ?_
                  refine lv_irem hx hb dX7_seekRests_111 (by decide) ?_
                  refine lv_topi (fun x_3085 ex_3085 => ?_)
                  have hG := hG.trans (lt_eq ex_3085)
                  have rg_x_3085 := fb_rng x_3085
                  have qx_3085 := ti_rem ex_3085 rfl kc_2 hi0_n_3066.1 (by decide)
                  have Qx_3085 := ti_remE ex_3085 rfl kc_2 hi0_n_3066.1 (by decide)
                  refine lv_iadd hx hb dX7_seekRests_112 ?_
                  refine lv_topi (fun x_3086 ex_3086 => ?_)
                  have hG := hG.trans (lt_eq ex_3086)
                  have vx_3086 : x_3086.toInt = 10 * x_3083.toInt + x_3085.toInt := om_eaf66da5 (ti_add ex_3086 vx_3084 rfl (om_793baeb6 qx_3083.1 qx_3085.1) (om_ffe800b0 gc_3067 qx_3083.2 qx_3085.2.1))
                  refine va_put (D := (dC, dI)) (ci := 7) (v := .int x_3086) (ty := .int) (C := RX7) (T := TX7) (N := 48) hx hb hts inX7 tyX7 tyX7_ok nmX7 hown hK hP hD hS 0 rfl rfl 46 (by decide) (hts _ wd_1315) (fun _ h9 => h9) rfl (by decide +kernel) rfl rfl (Nat.le_of_ble_eq_true rfl) dX7_seekRests_113 (fun H locs hP hD hS => ?_)
                  obtain ⟨hP, hD⟩ := wl2 (ws' := [(oc7 oM iM_thrown rM_tape iM_taped iM_size iM_at iM_end iM_token iM_whole iM_nameSize iM_fault iM_place iM_trouble rM_letters iM_failed iM_hasCourt rM_r rM_fresh rM_told rM_read rM_st rM_undone rM_kept iM_undos iM_images rM_fresher iM_fresherSize iM_scale iM_night rM_heardRow rM_cutRow iM_breaths iM_cutMany iM_allBreaths rM_trial rM_words iM_fewestBreaths iM_orderMany iM_orderSum iM_leastOrder rM_often iM_setMany iM_someOf iM_allOf iM_allWeight iM_enoughWeight iM_worthSum x_3086 iM_leastDrawn)]) hP hD rfl
                  obtain ⟨x_3087, ex_3087⟩ : ∃ z : Int32, z = z_3064 + Int32.ofInt 1 := ⟨_, rfl⟩
                  have hG := hG.trans (lt_eq ex_3087)
                  have vx_3087 : x_3087.toInt = z_3064.toInt + 1 := ti_add (y := 1) ex_3087 rfl kc_1 (om_3da4737a gc_3080) (om_f4fb5b9a gc_3080)
                  refine lv_iinc (v := x_3087) (lv' := [(2, .int x_3087), (5, .int 0), (4, .int 0), (3, .int z_3063), (0, .ref oM), (1, .int p0)]) hx hb dX7_seekRests_116 hl (k := 3) rfl ex_3087.symm (by decide) rfl (fun ls hl => ?_)
                  obtain ⟨x_3088, ex_3088⟩ : ∃ z : Int32, z = z_3063 + Int32.ofInt 1 := ⟨_, rfl⟩
                  have hG := hG.trans (lt_eq ex_3088)
                  have vx_3088 : x_3088.toInt = z_3063.toInt + 1 := ti_add (y := 1) ex_3088 rfl kc_1 (om_4e4fce7e hi0_n_3066.1) (om_71ed274a gc_3067)
                  refine lv_iinc (v := x_3088) (lv' := [(3, .int x_3088), (2, .int x_3087), (5, .int 0), (4, .int 0), (0, .ref oM), (1, .int p0)]) hx hb dX7_seekRests_119 hl (k := 3) rfl ex_3088.symm (by decide) rfl (fun ls hl => ?_)
                  refine lv_goto (tgt := 10) hx hb dX7_seekRests_122 (by decide) ?_
                  exact ih_n_3066 x_3088 x_3087 x_3086 _ _ _  ⟨(om_83b90de5 hi0_n_3066.1 vx_3088), (om_d99ff3f9 gc_3067 vx_3088)⟩ (ms_lt hm_n_3066 (om_b9393183 vx_3088) (om_50af1673 gc_3067)) hG hP hD hS (lv_sub hl [0, 1, 4, 5] rfl)
              · skip
                have hG := hG.trans (if_neg c_3079)
                have gc_3079 := ti_nle c_3079 rfl rfl
                refine lv_goto (tgt := 119) hx hb dX7_seekRests_95 (by decide) ?_
                obtain ⟨x_3089, ex_3089⟩ : ∃ z : Int32, z = z_3063 + Int32.ofInt 1 := ⟨_, rfl⟩
                have hG := hG.trans (lt_eq ex_3089)
                have vx_3089 : x_3089.toInt = z_3063.toInt + 1 := ti_add (y := 1) ex_3089 rfl kc_1 (om_4e4fce7e hi0_n_3066.1) (om_71ed274a gc_3067)
                refine lv_iinc (v := x_3089) (lv' := [(3, .int x_3089), (5, .int 0), (4, .int 0), (2, .int z_3064), (0, .ref oM), (1, .int p0)]) hx hb dX7_seekRests_119 hl (k := 2) rfl ex_3089.symm (by decide) rfl (fun ls hl => ?_)
                refine lv_goto (tgt := 10) hx hb dX7_seekRests_122 (by decide) ?_
                exact ih_n_3066 x_3089 z_3064 z_3065 _ _ _  ⟨(om_83b90de5 hi0_n_3066.1 vx_3089), (om_d99ff3f9 gc_3067 vx_3089)⟩ (ms_lt hm_n_3066 (om_b9393183 vx_3089) (om_50af1673 gc_3067)) hG hP hD hS (lv_sub hl [0, 3, 4, 5] rfl)
          · skip
            have hG := hG.trans (if_pos c_3070)
            have gc_3070 := ti_eq c_3070 rfl kc_1
            refine lv_iconst (v := 1) hx hb dX7_seekRests_34 (by decide) ?_
            refine lv_goto (tgt := 39) hx hb dX7_seekRests_35 (by decide) ?_
            refine lv_istore (lv' := [(5, .int 1), (4, .int 0), (3, .int z_3063), (2, .int z_3064), (0, .ref oM), (1, .int p0)]) hx hb dX7_seekRests_39 hl (by decide) rfl (fun ls hl => ?_)
            refine lv_iload_n hx hb dX7_seekRests_41 rfl (lv_at hl 5 rfl) ?_
            refine lv_iload hx hb dX7_seekRests_42 (lv_at hl 1 rfl) ?_
            refine lv_if_ne (tgt := 51) hx hb dX7_seekRests_44 (by decide) (fun c => absurd c (by decide)) (fun _ => ?_)
            refine lv_iconst (v := 1) hx hb dX7_seekRests_47 (by decide) ?_
            refine lv_goto (tgt := 52) hx hb dX7_seekRests_48 (by decide) ?_
            refine lv_iload hx hb dX7_seekRests_52 (lv_at hl 0 rfl) ?_
            have hFc : ∀ q, va_A [] _ q → A q := fun q h => hA q (Nat.le_trans hS.1 (va_nilA h))
            refine va_calli (va_runS (As := [.int p0, .int 1, .int 1]) (rest := []) ⟨hx, hb, hml, hown, hts⟩ (tX7_speaksOf l dC dI _ p0 1 1 ) (va_cwS 3 hts (wd_S wd_1297 wd_1298 wd_5 (wd_c wd_1299)) rfl rfl rfl ds_yX7_speaksOf_3 ⟨Nat.le_of_ble_eq_true rfl, Nat.le_of_ble_eq_true rfl⟩) ⟨Pw.fb, fun U hU hW => Pn.to hK hE hS hA hU hW⟩ rfl rfl hl.1 rfl (lv_room (Nat.le_of_ble_eq_true rfl)) dX7_seekRests_54 ⟨Nat.le_of_ble_eq_true rfl, Nat.le_of_ble_eq_true rfl⟩) hS (fun q _ h => hFc q h) hFc (fun r u t H locs ht hvm hw hB hz1 hk1 hS => ?_)
            obtain ⟨hP, hD, hK⟩ := Bw.same ht hvm hP hD hK hk1 hFc
            clear hz1 hk1 hvm ht hB
            have hq9 := hw.2
            have hw := hw.1
            obtain ⟨x_3091, rfl⟩ : ∃ z, z = r := ⟨_, rfl⟩
            have hq_x_3091 := hq9
            have hG := hG.trans (lt_eq hq_x_3091.symm)
            have rg_x_3091 := fb_rng x_3091
            refine lv_iload_n hx hb dX7_seekRests_57 rfl (lv_at hl 5 rfl) ?_
            refine lv_iload hx hb dX7_seekRests_58 (lv_at hl 1 rfl) ?_
            refine lv_iload hx hb dX7_seekRests_60 (lv_at hl 0 rfl) ?_
            have hFc : ∀ q, va_A [] _ q → A q := fun q h => hA q (Nat.le_trans hS.1 (va_nilA h))
            refine va_calli (va_runS (As := [.int p0, .int 0, .int 1]) (rest := [.int x_3091]) ⟨hx, hb, hml, hown, hts⟩ (tX7_speaksOf l dC dI _ p0 0 1 ) (va_cwS 3 hts (wd_S wd_1297 wd_1298 wd_5 (wd_c wd_1299)) rfl rfl rfl ds_yX7_speaksOf_3 ⟨Nat.le_of_ble_eq_true rfl, Nat.le_of_ble_eq_true rfl⟩) ⟨Pw.fb, fun U hU hW => Pn.to hK hE hS hA hU hW⟩ rfl rfl hl.1 rfl (lv_room (Nat.le_of_ble_eq_true rfl)) dX7_seekRests_62 ⟨Nat.le_of_ble_eq_true rfl, Nat.le_of_ble_eq_true rfl⟩) hS (fun q _ h => hFc q h) hFc (fun r u t H locs ht hvm hw hB hz1 hk1 hS => ?_)
            obtain ⟨hP, hD, hK⟩ := Bw.same ht hvm hP hD hK hk1 hFc
            clear hz1 hk1 hvm ht hB
            have hq9 := hw.2
            have hw := hw.1
            obtain ⟨x_3092, rfl⟩ : ∃ z, z = r := ⟨_, rfl⟩
            have hq_x_3092 := hq9
            have hG := hG.trans (lt_eq hq_x_3092.symm)
            have rg_x_3092 := fb_rng x_3092
            refine lv_icmp_gt (tgt := 119) hx hb dX7_seekRests_65 (by decide) (fun c_3093 => ?_) (fun c_3093 => ?_)
            · skip
              have hG := hG.trans (if_pos c_3093)
              have gc_3093 := ti_lt c_3093 rfl rfl
              obtain ⟨x_3094, ex_3094⟩ : ∃ z : Int32, z = z_3063 + Int32.ofInt 1 := ⟨_, rfl⟩
              have hG := hG.trans (lt_eq ex_3094)
              have vx_3094 : x_3094.toInt = z_3063.toInt + 1 := ti_add (y := 1) ex_3094 rfl kc_1 (om_4e4fce7e hi0_n_3066.1) (om_71ed274a gc_3067)
              refine lv_iinc (v := x_3094) (lv' := [(3, .int x_3094), (5, .int 1), (4, .int 0), (2, .int z_3064), (0, .ref oM), (1, .int p0)]) hx hb dX7_seekRests_119 hl (k := 2) rfl ex_3094.symm (by decide) rfl (fun ls hl => ?_)
              refine lv_goto (tgt := 10) hx hb dX7_seekRests_122 (by decide) ?_
              exact ih_n_3066 x_3094 z_3064 z_3065 _ _ _  ⟨(om_83b90de5 hi0_n_3066.1 vx_3094), (om_d99ff3f9 gc_3067 vx_3094)⟩ (ms_lt hm_n_3066 (om_b9393183 vx_3094) (om_50af1673 gc_3067)) hG hP hD hS (lv_sub hl [0, 3, 4, 5] rfl)
            · skip
              have hG := hG.trans (if_neg c_3093)
              have gc_3093 := ti_nlt c_3093 rfl rfl
              refine lv_iload_n hx hb dX7_seekRests_68 rfl (lv_at hl 5 rfl) ?_
              refine lv_iload hx hb dX7_seekRests_69 (lv_at hl 0 rfl) ?_
              refine lv_if_ne (tgt := 78) hx hb dX7_seekRests_71 (by decide) (fun _ => ?_) (fun c => absurd c (by decide))
              refine lv_iconst (v := 0) hx hb dX7_seekRests_78 (by decide) ?_
              refine lv_iload hx hb dX7_seekRests_79 (lv_at hl 1 rfl) ?_
              have hFc : ∀ q, va_A [] _ q → A q := fun q h => hA q (Nat.le_trans hS.1 (va_nilA h))
              refine va_calli (va_runS (As := [.int p0, .int 0, .int 0]) (rest := []) ⟨hx, hb, hml, hown, hts⟩ (tX7_speaksOf l dC dI _ p0 0 0 ) (va_cwS 3 hts (wd_S wd_1297 wd_1298 wd_5 (wd_c wd_1299)) rfl rfl rfl ds_yX7_speaksOf_3 ⟨Nat.le_of_ble_eq_true rfl, Nat.le_of_ble_eq_true rfl⟩) ⟨Pw.fb, fun U hU hW => Pn.to hK hE hS hA hU hW⟩ rfl rfl hl.1 rfl (lv_room (Nat.le_of_ble_eq_true rfl)) dX7_seekRests_81 ⟨Nat.le_of_ble_eq_true rfl, Nat.le_of_ble_eq_true rfl⟩) hS (fun q _ h => hFc q h) hFc (fun r u t H locs ht hvm hw hB hz1 hk1 hS => ?_)
              obtain ⟨hP, hD, hK⟩ := Bw.same ht hvm hP hD hK hk1 hFc
              clear hz1 hk1 hvm ht hB
              have hq9 := hw.2
              have hw := hw.1
              obtain ⟨x_3096, rfl⟩ : ∃ z, z = r := ⟨_, rfl⟩
              have hq_x_3096 := hq9
              have hG := hG.trans (lt_eq hq_x_3096.symm)
              have rg_x_3096 := fb_rng x_3096
              refine lv_iload_n hx hb dX7_seekRests_84 rfl (lv_at hl 5 rfl) ?_
              refine lv_iload hx hb dX7_seekRests_85 (lv_at hl 0 rfl) ?_
              refine lv_iload hx hb dX7_seekRests_87 (lv_at hl 1 rfl) ?_
              have hFc : ∀ q, va_A [] _ q → A q := fun q h => hA q (Nat.le_trans hS.1 (va_nilA h))
              refine va_calli (va_runS (As := [.int p0, .int 1, .int 0]) (rest := [.int x_3096]) ⟨hx, hb, hml, hown, hts⟩ (tX7_speaksOf l dC dI _ p0 1 0 ) (va_cwS 3 hts (wd_S wd_1297 wd_1298 wd_5 (wd_c wd_1299)) rfl rfl rfl ds_yX7_speaksOf_3 ⟨Nat.le_of_ble_eq_true rfl, Nat.le_of_ble_eq_true rfl⟩) ⟨Pw.fb, fun U hU hW => Pn.to hK hE hS hA hU hW⟩ rfl rfl hl.1 rfl (lv_room (Nat.le_of_ble_eq_true rfl)) dX7_seekRests_89 ⟨Nat.le_of_ble_eq_true rfl, Nat.le_of_ble_eq_true rfl⟩) hS (fun q _ h => hFc q h) hFc (fun r u t H locs ht hvm hw hB hz1 hk1 hS => ?_)
              obtain ⟨hP, hD, hK⟩ := Bw.same ht hvm hP hD hK hk1 hFc
              clear hz1 hk1 hvm ht hB
              have hq9 := hw.2
              have hw := hw.1
              obtain ⟨x_3097, rfl⟩ : ∃ z, z = r := ⟨_, rfl⟩
              have hq_x_3097 := hq9
              have hG := hG.trans (lt_eq hq_x_3097.symm)
              have rg_x_3097 := fb_rng x_3097
              refine lv_icmp_le (tgt := 98) hx hb dX7_seekRests_92 (by decide) (fun c_3098 => ?_) (fun c_3098 => ?_)
              · skip
                have hG := hG.trans (if_pos c_3098)
                have gc_3098 := ti_le c_3098 rfl rfl
                refine lv_iload_n hx hb dX7_seekRests_98 rfl (lv_at hl 3 rfl) ?_
                refine lv_if_ne (tgt := 116) hx hb dX7_seekRests_99 (by decide) (fun c_3099 => ?_) (fun c_3099 => ?_)
                · skip
                  have hG := hG.trans (if_neg c_3099)
                  have gc_3099 := ti_ne c_3099 rfl kc_0
                  obtain ⟨x_3100, ex_3100⟩ : ∃ z : Int32, z = z_3064 + Int32.ofInt 1 := ⟨_, rfl⟩
                  have hG := hG.trans (lt_eq ex_3100)
                  have rg_x_3100 := fb_rng x_3100
                  refine lv_iinc (v := x_3100) (lv' := [(2, .int x_3100), (5, .int 1), (4, .int 0), (3, .int z_3063), (0, .ref oM), (1, .int p0)]) hx hb dX7_seekRests_116 hl (k := 3) rfl ex_3100.symm (by decide) rfl (fun ls hl => ?_)
                  obtain ⟨x_3101, ex_3101⟩ : ∃ z : Int32, z = z_3063 + Int32.ofInt 1 := ⟨_, rfl⟩
                  have hG := hG.trans (lt_eq ex_3101)
                  have vx_3101 : x_3101.toInt = z_3063.toInt + 1 := ti_add (y := 1) ex_3101 rfl kc_1 (om_4e4fce7e hi0_n_3066.1) (om_71ed274a gc_3067)
                  refine lv_iinc (v := x_3101) (lv' := [(3, .int x_3101), (2, .int x_3100), (5, .int 1), (4, .int 0), (0, .ref oM), (1, .int p0)]) hx hb dX7_seekRests_119 hl (k := 3) rfl ex_3101.symm (by decide) rfl (fun ls hl => ?_)
                  refine lv_goto (tgt := 10) hx hb dX7_seekRests_122 (by decide) ?_
                  exact ih_n_3066 x_3101 x_3100 z_3065 _ _ _  ⟨(om_83b90de5 hi0_n_3066.1 vx_3101), (om_d99ff3f9 gc_3067 vx_3101)⟩ (ms_lt hm_n_3066 (om_b9393183 vx_3101) (om_50af1673 gc_3067)) hG hP hD hS (lv_sub hl [0, 1, 4, 5] rfl)
                · skip
                  have hG := hG.trans (if_pos c_3099)
                  have gc_3099 := ti_eq c_3099 rfl kc_0
                  refine lv_aload_n hx hb dX7_seekRests_102 rfl (lv_at hl 4 rfl) ?_
                  refine lv_bipush (v := 10) hx hb dX7_seekRests_103 (by decide) ?_
                  refine lv_iload_n hx hb dX7_seekRests_105 rfl (lv_at hl 2 rfl) ?_
                  refine lv_iconst (v := 2) hx hb dX7_seekRests_106 (by decide) ?_
                  refine lv_idiv hx hb dX7_seekRests_107 (by decide) ?_
                  refine lv_topi (fun x_3102 ex_3102 => ?_)
                  have hG := hG.trans (lt_eq ex_3102)
                  have rg_x_3102 := fb_rng x_3102
                  have qx_3102 := ti_div ex_3102 rfl kc_2 hi0_n_3066.1 (by decide)
                  have Qx_3102 := ti_divE ex_3102 rfl kc_2 hi0_n_3066.1 (by decide)
                  refine lv_imul hx hb dX7_seekRests_108 ?_
                  refine lv_topi (fun x_3103 ex_3103 => ?_)
                  have hG := hG.trans (lt_eq ex_3103)
                  have vx_3103 : x_3103.toInt = 10 * x_3102.toInt := ti_mul ex_3103 kc_10 rfl (om_01615985 qx_3102.1) (om_e51e3a41 gc_3067 qx_3102.2)
                  refine lv_iload_n hx hb dX7_seekRests_109 rfl (lv_at hl 2 rfl) ?_
                  refine lv_iconst (v := 2) hx hb dX7_seekRests_110 (by decide) ?_
                  refine lv_irem hx hb dX7_seekRests_111 (by decide) ?_
                  refine lv_topi (fun x_3104 ex_3104 => ?_)
                  have hG := hG.trans (lt_eq ex_3104)
                  have rg_x_3104 := fb_rng x_3104
                  have qx_3104 := ti_rem ex_3104 rfl kc_2 hi0_n_3066.1 (by decide)
                  have Qx_3104 := ti_remE ex_3104 rfl kc_2 hi0_n_3066.1 (by decide)
                  refine lv_iadd hx hb dX7_seekRests_112 ?_
                  refine lv_topi (fun x_3105 ex_3105 => ?_)
                  have hG := hG.trans (lt_eq ex_3105)
                  have vx_3105 : x_3105.toInt = 10 * x_3102.toInt + x_3104.toInt := om_eaf66da5 (ti_add ex_3105 vx_3103 rfl (om_793baeb6 qx_3102.1 qx_3104.1) (om_ffe800b0 gc_3067 qx_3102.2 qx_3104.2.1))
                  refine va_put (D := (dC, dI)) (ci := 7) (v := .int x_3105) (ty := .int) (C := RX7) (T := TX7) (N := 48) hx hb hts inX7 tyX7 tyX7_ok nmX7 hown hK hP hD hS 0 rfl rfl 46 (by decide) (hts _ wd_1315) (fun _ h9 => h9) rfl (by decide +kernel) rfl rfl (Nat.le_of_ble_eq_true rfl) dX7_seekRests_113 (fun H locs hP hD hS => ?_)
                  obtain ⟨hP, hD⟩ := wl2 (ws' := [(oc7 oM iM_thrown rM_tape iM_taped iM_size iM_at iM_end iM_token iM_whole iM_nameSize iM_fault iM_place iM_trouble rM_letters iM_failed iM_hasCourt rM_r rM_fresh rM_told rM_read rM_st rM_undone rM_kept iM_undos iM_images rM_fresher iM_fresherSize iM_scale iM_night rM_heardRow rM_cutRow iM_breaths iM_cutMany iM_allBreaths rM_trial rM_words iM_fewestBreaths iM_orderMany iM_orderSum iM_leastOrder rM_often iM_setMany iM_someOf iM_allOf iM_allWeight iM_enoughWeight iM_worthSum x_3105 iM_leastDrawn)]) hP hD rfl
                  obtain ⟨x_3106, ex_3106⟩ : ∃ z : Int32, z = z_3064 + Int32.ofInt 1 := ⟨_, rfl⟩
                  have hG := hG.trans (lt_eq ex_3106)
                  have vx_3106 : x_3106.toInt = z_3064.toInt + 1 := ti_add (y := 1) ex_3106 rfl kc_1 (om_3da4737a gc_3099) (om_f4fb5b9a gc_3099)
                  refine lv_iinc (v := x_3106) (lv' := [(2, .int x_3106), (5, .int 1), (4, .int 0), (3, .int z_3063), (0, .ref oM), (1, .int p0)]) hx hb dX7_seekRests_116 hl (k := 3) rfl ex_3106.symm (by decide) rfl (fun ls hl => ?_)
                  obtain ⟨x_3107, ex_3107⟩ : ∃ z : Int32, z = z_3063 + Int32.ofInt 1 := ⟨_, rfl⟩
                  have hG := hG.trans (lt_eq ex_3107)
                  have vx_3107 : x_3107.toInt = z_3063.toInt + 1 := ti_add (y := 1) ex_3107 rfl kc_1 (om_4e4fce7e hi0_n_3066.1) (om_71ed274a gc_3067)
                  refine lv_iinc (v := x_3107) (lv' := [(3, .int x_3107), (2, .int x_3106), (5, .int 1), (4, .int 0), (0, .ref oM), (1, .int p0)]) hx hb dX7_seekRests_119 hl (k := 3) rfl ex_3107.symm (by decide) rfl (fun ls hl => ?_)
                  refine lv_goto (tgt := 10) hx hb dX7_seekRests_122 (by decide) ?_
                  exact ih_n_3066 x_3107 x_3106 x_3105 _ _ _  ⟨(om_83b90de5 hi0_n_3066.1 vx_3107), (om_d99ff3f9 gc_3067 vx_3107)⟩ (ms_lt hm_n_3066 (om_b9393183 vx_3107) (om_50af1673 gc_3067)) hG hP hD hS (lv_sub hl [0, 1, 4, 5] rfl)
              · skip
                have hG := hG.trans (if_neg c_3098)
                have gc_3098 := ti_nle c_3098 rfl rfl
                refine lv_goto (tgt := 119) hx hb dX7_seekRests_95 (by decide) ?_
                obtain ⟨x_3108, ex_3108⟩ : ∃ z : Int32, z = z_3063 + Int32.ofInt 1 := ⟨_, rfl⟩
                have hG := hG.trans (lt_eq ex_3108)
                have vx_3108 : x_3108.toInt = z_3063.toInt + 1 := ti_add (y := 1) ex_3108 rfl kc_1 (om_4e4fce7e hi0_n_3066.1) (om_71ed274a gc_3067)
                refine lv_iinc (v := x_3108) (lv' := [(3, .int x_3108), (5, .int 1), (4, .int 0), (2, .int z_3064), (0, .ref oM), (1, .int p0)]) hx hb dX7_seekRests_119 hl (k := 2) rfl ex_3108.symm (by decide) rfl (fun ls hl => ?_)
                refine lv_goto (tgt := 10) hx hb dX7_seekRests_122 (by decide) ?_
                exact ih_n_3066 x_3108 z_3064 z_3065 _ _ _  ⟨(om_83b90de5 hi0_n_3066.1 vx_3108), (om_d99ff3f9 gc_3067 vx_3108)⟩ (ms_lt hm_n_3066 (om_b9393183 vx_3108) (om_50af1673 gc_3067)) hG hP hD hS (lv_sub hl [0, 3, 4, 5] rfl)
        · skip
          have hG := hG.trans (if_neg c_3068)
          have gc_3068 := ti_nle c_3068 rfl kc_1
          refine lv_iconst (v := 1) hx hb dX7_seekRests_20 (by decide) ?_
          refine lv_goto (tgt := 25) hx hb dX7_seekRests_21 (by decide) ?_
          refine lv_istore (lv' := [(4, .int 1), (3, .int z_3063), (2, .int z_3064), (0, .ref oM), (1, .int p0)]) hx hb dX7_seekRests_25 hl (by decide) rfl (fun ls hl => ?_)
          refine lv_iload_n hx hb dX7_seekRests_27 rfl (lv_at hl 1 rfl) ?_
          refine lv_iconst (v := 2) hx hb dX7_seekRests_28 (by decide) ?_
          refine lv_irem hx hb dX7_seekRests_29 (by decide) ?_
          refine lv_topi (fun x_3109 ex_3109 => ?_)
          have hG := hG.trans (lt_eq ex_3109)
          have rg_x_3109 := fb_rng x_3109
          have qx_3109 := ti_rem ex_3109 rfl kc_2 hi0_n_3066.1 (by decide)
          have Qx_3109 := ti_remE ex_3109 rfl kc_2 hi0_n_3066.1 (by decide)
          refine lv_iconst (v := 1) hx hb dX7_seekRests_30 (by decide) ?_
          refine lv_icmp_ne (tgt := 38) hx hb dX7_seekRests_31 (by decide) (fun c_3110 => ?_) (fun c_3110 => ?_)
          · skip
            have hG := hG.trans (if_neg c_3110)
            have gc_3110 := ti_ne c_3110 rfl kc_1
            refine lv_iconst (v := 0) hx hb dX7_seekRests_38 (by decide) ?_
            refine lv_istore (lv' := [(5, .int 0), (4, .int 1), (3, .int z_3063), (2, .int z_3064), (0, .ref oM), (1, .int p0)]) hx hb dX7_seekRests_39 hl (by decide) rfl (fun ls hl => ?_)
            refine lv_iload_n hx hb dX7_seekRests_41 rfl (lv_at hl 5 rfl) ?_
            refine lv_iload hx hb dX7_seekRests_42 (lv_at hl 1 rfl) ?_
            refine lv_if_ne (tgt := 51) hx hb dX7_seekRests_44 (by decide) (fun _ => ?_) (fun c => absurd c (by decide))
            refine lv_iconst (v := 0) hx hb dX7_seekRests_51 (by decide) ?_
            refine lv_iload hx hb dX7_seekRests_52 (lv_at hl 0 rfl) ?_
            have hFc : ∀ q, va_A [] _ q → A q := fun q h => hA q (Nat.le_trans hS.1 (va_nilA h))
            refine va_calli (va_runS (As := [.int p0, .int 0, .int 0]) (rest := []) ⟨hx, hb, hml, hown, hts⟩ (tX7_speaksOf l dC dI _ p0 0 0 ) (va_cwS 3 hts (wd_S wd_1297 wd_1298 wd_5 (wd_c wd_1299)) rfl rfl rfl ds_yX7_speaksOf_3 ⟨Nat.le_of_ble_eq_true rfl, Nat.le_of_ble_eq_true rfl⟩) ⟨Pw.fb, fun U hU hW => Pn.to hK hE hS hA hU hW⟩ rfl rfl hl.1 rfl (lv_room (Nat.le_of_ble_eq_true rfl)) dX7_seekRests_54 ⟨Nat.le_of_ble_eq_true rfl, Nat.le_of_ble_eq_true rfl⟩) hS (fun q _ h => hFc q h) hFc (fun r u t H locs ht hvm hw hB hz1 hk1 hS => ?_)
            obtain ⟨hP, hD, hK⟩ := Bw.same ht hvm hP hD hK hk1 hFc
            clear hz1 hk1 hvm ht hB
            have hq9 := hw.2
            have hw := hw.1
            obtain ⟨x_3112, rfl⟩ : ∃ z, z = r := ⟨_, rfl⟩
            have hq_x_3112 := hq9
            have hG := hG.trans (lt_eq hq_x_3112.symm)
            have rg_x_3112 := fb_rng x_3112
            refine lv_iload_n hx hb dX7_seekRests_57 rfl (lv_at hl 5 rfl) ?_
            refine lv_iload hx hb dX7_seekRests_58 (lv_at hl 1 rfl) ?_
            refine lv_iload hx hb dX7_seekRests_60 (lv_at hl 0 rfl) ?_
            have hFc : ∀ q, va_A [] _ q → A q := fun q h => hA q (Nat.le_trans hS.1 (va_nilA h))
            refine va_calli (va_runS (As := [.int p0, .int 1, .int 0]) (rest := [.int x_3112]) ⟨hx, hb, hml, hown, hts⟩ (tX7_speaksOf l dC dI _ p0 1 0 ) (va_cwS 3 hts (wd_S wd_1297 wd_1298 wd_5 (wd_c wd_1299)) rfl rfl rfl ds_yX7_speaksOf_3 ⟨Nat.le_of_ble_eq_true rfl, Nat.le_of_ble_eq_true rfl⟩) ⟨Pw.fb, fun U hU hW => Pn.to hK hE hS hA hU hW⟩ rfl rfl hl.1 rfl (lv_room (Nat.le_of_ble_eq_true rfl)) dX7_seekRests_62 ⟨Nat.le_of_ble_eq_true rfl, Nat.le_of_ble_eq_true rfl⟩) hS (fun q _ h => hFc q h) hFc (fun r u t H locs ht hvm hw hB hz1 hk1 hS => ?_)
            obtain ⟨hP, hD, hK⟩ := Bw.same ht hvm hP hD hK hk1 hFc
            clear hz1 hk1 hvm ht hB
            have hq9 := hw.2
            have hw := hw.1
            obtain ⟨x_3113, rfl⟩ : ∃ z, z = r := ⟨_, rfl⟩
            have hq_x_3113 := hq9
            have hG := hG.trans (lt_eq hq_x_3113.symm)
            have rg_x_3113 := fb_rng x_3113
            refine lv_icmp_gt (tgt := 119) hx hb dX7_seekRests_65 (by decide) (fun c_3114 => ?_) (fun c_3114 => ?_)
            · skip
              have hG := hG.trans (if_pos c_3114)
              have gc_3114 := ti_lt c_3114 rfl rfl
              obtain ⟨x_3115, ex_3115⟩ : ∃ z : Int32, z = z_3063 + Int32.ofInt 1 := ⟨_, rfl⟩
              have hG := hG.trans (lt_eq ex_3115)
              have vx_3115 : x_3115.toInt = z_3063.toInt + 1 := ti_add (y := 1) ex_3115 rfl kc_1 (om_4e4fce7e hi0_n_3066.1) (om_71ed274a gc_3067)
              refine lv_iinc (v := x_3115) (lv' := [(3, .int x_3115), (5, .int 0), (4, .int 1), (2, .int z_3064), (0, .ref oM), (1, .int p0)]) hx hb dX7_seekRests_119 hl (k := 2) rfl ex_3115.symm (by decide) rfl (fun ls hl => ?_)
              refine lv_goto (tgt := 10) hx hb dX7_seekRests_122 (by decide) ?_
              exact ih_n_3066 x_3115 z_3064 z_3065 _ _ _  ⟨(om_83b90de5 hi0_n_3066.1 vx_3115), (om_d99ff3f9 gc_3067 vx_3115)⟩ (ms_lt hm_n_3066 (om_b9393183 vx_3115) (om_50af1673 gc_3067)) hG hP hD hS (lv_sub hl [0, 3, 4, 5] rfl)
            · skip
              have hG := hG.trans (if_neg c_3114)
              have gc_3114 := ti_nlt c_3114 rfl rfl
              refine lv_iload_n hx hb dX7_seekRests_68 rfl (lv_at hl 5 rfl) ?_
              refine lv_iload hx hb dX7_seekRests_69 (lv_at hl 0 rfl) ?_
              refine lv_if_ne (tgt := 78) hx hb dX7_seekRests_71 (by decide) (fun c => absurd c (by decide)) (fun _ => ?_)
              refine lv_iconst (v := 1) hx hb dX7_seekRests_74 (by decide) ?_
              refine lv_goto (tgt := 79) hx hb dX7_seekRests_75 (by decide) ?_
              refine lv_iload hx hb dX7_seekRests_79 (lv_at hl 1 rfl) ?_
              have hFc : ∀ q, va_A [] _ q → A q := fun q h => hA q (Nat.le_trans hS.1 (va_nilA h))
              refine va_calli (va_runS (As := [.int p0, .int 1, .int 1]) (rest := []) ⟨hx, hb, hml, hown, hts⟩ (tX7_speaksOf l dC dI _ p0 1 1 ) (va_cwS 3 hts (wd_S wd_1297 wd_1298 wd_5 (wd_c wd_1299)) rfl rfl rfl ds_yX7_speaksOf_3 ⟨Nat.le_of_ble_eq_true rfl, Nat.le_of_ble_eq_true rfl⟩) ⟨Pw.fb, fun U hU hW => Pn.to hK hE hS hA hU hW⟩ rfl rfl hl.1 rfl (lv_room (Nat.le_of_ble_eq_true rfl)) dX7_seekRests_81 ⟨Nat.le_of_ble_eq_true rfl, Nat.le_of_ble_eq_true rfl⟩) hS (fun q _ h => hFc q h) hFc (fun r u t H locs ht hvm hw hB hz1 hk1 hS => ?_)
              obtain ⟨hP, hD, hK⟩ := Bw.same ht hvm hP hD hK hk1 hFc
              clear hz1 hk1 hvm ht hB
              have hq9 := hw.2
              have hw := hw.1
              obtain ⟨x_3117, rfl⟩ : ∃ z, z = r := ⟨_, rfl⟩
              have hq_x_3117 := hq9
              have hG := hG.trans (lt_eq hq_x_3117.symm)
              have rg_x_3117 := fb_rng x_3117
              refine lv_iload_n hx hb dX7_seekRests_84 rfl (lv_at hl 5 rfl) ?_
              refine lv_iload hx hb dX7_seekRests_85 (lv_at hl 0 rfl) ?_
              refine lv_iload hx hb dX7_seekRests_87 (lv_at hl 1 rfl) ?_
              have hFc : ∀ q, va_A [] _ q → A q := fun q h => hA q (Nat.le_trans hS.1 (va_nilA h))
              refine va_calli (va_runS (As := [.int p0, .int 0, .int 1]) (rest := [.int x_3117]) ⟨hx, hb, hml, hown, hts⟩ (tX7_speaksOf l dC dI _ p0 0 1 ) (va_cwS 3 hts (wd_S wd_1297 wd_1298 wd_5 (wd_c wd_1299)) rfl rfl rfl ds_yX7_speaksOf_3 ⟨Nat.le_of_ble_eq_true rfl, Nat.le_of_ble_eq_true rfl⟩) ⟨Pw.fb, fun U hU hW => Pn.to hK hE hS hA hU hW⟩ rfl rfl hl.1 rfl (lv_room (Nat.le_of_ble_eq_true rfl)) dX7_seekRests_89 ⟨Nat.le_of_ble_eq_true rfl, Nat.le_of_ble_eq_true rfl⟩) hS (fun q _ h => hFc q h) hFc (fun r u t H locs ht hvm hw hB hz1 hk1 hS => ?_)
              obtain ⟨hP, hD, hK⟩ := Bw.same ht hvm hP hD hK hk1 hFc
              clear hz1 hk1 hvm ht hB
              have hq9 := hw.2
              have hw := hw.1
              obtain ⟨x_3118, rfl⟩ : ∃ z, z = r := ⟨_, rfl⟩
              have hq_x_3118 := hq9
              have hG := hG.trans (lt_eq hq_x_3118.symm)
              have rg_x_3118 := fb_rng x_3118
              refine lv_icmp_le (tgt := 98) hx hb dX7_seekRests_92 (by decide) (fun c_3119 => ?_) (fun c_3119 => ?_)
              · skip
                have hG := hG.trans (if_pos c_3119)
                have gc_3119 := ti_le c_3119 rfl rfl
                refine lv_iload_n hx hb dX7_seekRests_98 rfl (lv_at hl 3 rfl) ?_
                refine lv_if_ne (tgt := 116) hx hb dX7_seekRests_99 (by decide) (fun c_3120 => ?_) (fun c_3120 => ?_)
                · skip
                  have hG := hG.trans (if_neg c_3120)
                  have gc_3120 := ti_ne c_3120 rfl kc_0
                  obtain ⟨x_3121, ex_3121⟩ : ∃ z : Int32, z = z_3064 + Int32.ofInt 1 := ⟨_, rfl⟩
                  have hG := hG.trans (lt_eq ex_3121)
                  have rg_x_3121 := fb_rng x_3121
                  refine lv_iinc (v := x_3121) (lv' := [(2, .int x_3121), (5, .int 0), (4, .int 1), (3, .int z_3063), (0, .ref oM), (1, .int p0)]) hx hb dX7_seekRests_116 hl (k := 3) rfl ex_3121.symm (by decide) rfl (fun ls hl => ?_)
                  obtain ⟨x_3122, ex_3122⟩ : ∃ z : Int32, z = z_3063 + Int32.ofInt 1 := ⟨_, rfl⟩
                  have hG := hG.trans (lt_eq ex_3122)
                  have vx_3122 : x_3122.toInt = z_3063.toInt + 1 := ti_add (y := 1) ex_3122 rfl kc_1 (om_4e4fce7e hi0_n_3066.1) (om_71ed274a gc_3067)
                  refine lv_iinc (v := x_3122) (lv' := [(3, .int x_3122), (2, .int x_3121), (5, .int 0), (4, .int 1), (0, .ref oM), (1, .int p0)]) hx hb dX7_seekRests_119 hl (k := 3) rfl ex_3122.symm (by decide) rfl (fun ls hl => ?_)
                  refine lv_goto (tgt := 10) hx hb dX7_seekRests_122 (by decide) ?_
                  exact ih_n_3066 x_3122 x_3121 z_3065 _ _ _  ⟨(om_83b90de5 hi0_n_3066.1 vx_3122), (om_d99ff3f9 gc_3067 vx_3122)⟩ (ms_lt hm_n_3066 (om_b9393183 vx_3122) (om_50af1673 gc_3067)) hG hP hD hS (lv_sub hl [0, 1, 4, 5] rfl)
                · skip
                  have hG := hG.trans (if_pos c_3120)
                  have gc_3120 := ti_eq c_3120 rfl kc_0
                  refine lv_aload_n hx hb dX7_seekRests_102 rfl (lv_at hl 4 rfl) ?_
                  refine lv_bipush (v := 10) hx hb dX7_seekRests_103 (by decide) ?_
                  refine lv_iload_n hx hb dX7_seekRests_105 rfl (lv_at hl 2 rfl) ?_
                  refine lv_iconst (v := 2) hx hb dX7_seekRests_106 (by decide) ?_
                  refine lv_idiv hx hb dX7_seekRests_107 (by decide) ?_
                  refine lv_topi (fun x_3123 ex_3123 => ?_)
                  have hG := hG.trans (lt_eq ex_3123)
                  have rg_x_3123 := fb_rng x_3123
                  have qx_3123 := ti_div ex_3123 rfl kc_2 hi0_n_3066.1 (by decide)
                  have Qx_3123 := ti_divE ex_3123 rfl kc_2 hi0_n_3066.1 (by decide)
                  refine lv_imul hx hb dX7_seekRests_108 ?_
                  refine lv_topi (fun x_3124 ex_3124 => ?_)
                  have hG := hG.trans (lt_eq ex_3124)
                  have vx_3124 : x_3124.toInt = 10 * x_3123.toInt := ti_mul ex_3124 kc_10 rfl (om_01615985 qx_3123.1) (om_e51e3a41 gc_3067 qx_3123.2)
                  refine lv_iload_n hx hb dX7_seekRests_109 rfl (lv_at hl 2 rfl) ?_
                  refine lv_iconst (v := 2) hx hb dX7_seekRests_110 (by decide) ?_
                  refine lv_irem hx hb dX7_seekRests_111 (by decide) ?_
                  refine lv_topi (fun x_3125 ex_3125 => ?_)
                  have hG := hG.trans (lt_eq ex_3125)
                  have rg_x_3125 := fb_rng x_3125
                  have qx_3125 := ti_rem ex_3125 rfl kc_2 hi0_n_3066.1 (by decide)
                  have Qx_3125 := ti_remE ex_3125 rfl kc_2 hi0_n_3066.1 (by decide)
                  refine lv_iadd hx hb dX7_seekRests_112 ?_
                  refine lv_topi (fun x_3126 ex_3126 => ?_)
                  have hG := hG.trans (lt_eq ex_3126)
                  have vx_3126 : x_3126.toInt = 10 * x_3123.toInt + x_3125.toInt := om_eaf66da5 (ti_add ex_3126 vx_3124 rfl (om_793baeb6 qx_3123.1 qx_3125.1) (om_ffe800b0 gc_3067 qx_3123.2 qx_3125.2.1))
                  refine va_put (D := (dC, dI)) (ci := 7) (v := .int x_3126) (ty := .int) (C := RX7) (T := TX7) (N := 48) hx hb hts inX7 tyX7 tyX7_ok nmX7 hown hK hP hD hS 0 rfl rfl 46 (by decide) (hts _ wd_1315) (fun _ h9 => h9) rfl (by decide +kernel) rfl rfl (Nat.le_of_ble_eq_true rfl) dX7_seekRests_113 (fun H locs hP hD hS => ?_)
                  obtain ⟨hP, hD⟩ := wl2 (ws' := [(oc7 oM iM_thrown rM_tape iM_taped iM_size iM_at iM_end iM_token iM_whole iM_nameSize iM_fault iM_place iM_trouble rM_letters iM_failed iM_hasCourt rM_r rM_fresh rM_told rM_read rM_st rM_undone rM_kept iM_undos iM_images rM_fresher iM_fresherSize iM_scale iM_night rM_heardRow rM_cutRow iM_breaths iM_cutMany iM_allBreaths rM_trial rM_words iM_fewestBreaths iM_orderMany iM_orderSum iM_leastOrder rM_often iM_setMany iM_someOf iM_allOf iM_allWeight iM_enoughWeight iM_worthSum x_3126 iM_leastDrawn)]) hP hD rfl
                  obtain ⟨x_3127, ex_3127⟩ : ∃ z : Int32, z = z_3064 + Int32.ofInt 1 := ⟨_, rfl⟩
                  have hG := hG.trans (lt_eq ex_3127)
                  have vx_3127 : x_3127.toInt = z_3064.toInt + 1 := ti_add (y := 1) ex_3127 rfl kc_1 (om_3da4737a gc_3120) (om_f4fb5b9a gc_3120)
                  refine lv_iinc (v := x_3127) (lv' := [(2, .int x_3127), (5, .int 0), (4, .int 1), (3, .int z_3063), (0, .ref oM), (1, .int p0)]) hx hb dX7_seekRests_116 hl (k := 3) rfl ex_3127.symm (by decide) rfl (fun ls hl => ?_)
                  obtain ⟨x_3128, ex_3128⟩ : ∃ z : Int32, z = z_3063 + Int32.ofInt 1 := ⟨_, rfl⟩
                  have hG := hG.trans (lt_eq ex_3128)
                  have vx_3128 : x_3128.toInt = z_3063.toInt + 1 := ti_add (y := 1) ex_3128 rfl kc_1 (om_4e4fce7e hi0_n_3066.1) (om_71ed274a gc_3067)
                  refine lv_iinc (v := x_3128) (lv' := [(3, .int x_3128), (2, .int x_3127), (5, .int 0), (4, .int 1), (0, .ref oM), (1, .int p0)]) hx hb dX7_seekRests_119 hl (k := 3) rfl ex_3128.symm (by decide) rfl (fun ls hl => ?_)
                  refine lv_goto (tgt := 10) hx hb dX7_seekRests_122 (by decide) ?_
                  exact ih_n_3066 x_3128 x_3127 x_3126 _ _ _  ⟨(om_83b90de5 hi0_n_3066.1 vx_3128), (om_d99ff3f9 gc_3067 vx_3128)⟩ (ms_lt hm_n_3066 (om_b9393183 vx_3128) (om_50af1673 gc_3067)) hG hP hD hS (lv_sub hl [0, 1, 4, 5] rfl)
              · skip
                have hG := hG.trans (if_neg c_3119)
                have gc_3119 := ti_nle c_3119 rfl rfl
                refine lv_goto (tgt := 119) hx hb dX7_seekRests_95 (by decide) ?_
                obtain ⟨x_3129, ex_3129⟩ : ∃ z : Int32, z = z_3063 + Int32.ofInt 1 := ⟨_, rfl⟩
                have hG := hG.trans (lt_eq ex_3129)
                have vx_3129 : x_3129.toInt = z_3063.toInt + 1 := ti_add (y := 1) ex_3129 rfl kc_1 (om_4e4fce7e hi0_n_3066.1) (om_71ed274a gc_3067)
                refine lv_iinc (v := x_3129) (lv' := [(3, .int x_3129), (5, .int 0), (4, .int 1), (2, .int z_3064), (0, .ref oM), (1, .int p0)]) hx hb dX7_seekRests_119 hl (k := 2) rfl ex_3129.symm (by decide) rfl (fun ls hl => ?_)
                refine lv_goto (tgt := 10) hx hb dX7_seekRests_122 (by decide) ?_
                exact ih_n_3066 x_3129 z_3064 z_3065 _ _ _  ⟨(om_83b90de5 hi0_n_3066.1 vx_3129), (om_d99ff3f9 gc_3067 vx_3129)⟩ (ms_lt hm_n_3066 (om_b9393183 vx_3129) (om_50af1673 gc_3067)) hG hP hD hS (lv_sub hl [0, 3, 4, 5] rfl)
          · skip
            have hG := hG.trans (if_pos c_3110)
            have gc_3110 := ti_eq c_3110 rfl kc_1
            refine lv_iconst (v := 1) hx hb dX7_seekRests_34 (by decide) ?_
            refine lv_goto (tgt := 39) hx hb dX7_seekRests_35 (by decide) ?_
            refine lv_istore (lv' := [(5, .int 1), (4, .int 1), (3, .int z_3063), (2, .int z_3064), (0, .ref oM), (1, .int p0)]) hx hb dX7_seekRests_39 hl (by decide) rfl (fun ls hl => ?_)
            refine lv_iload_n hx hb dX7_seekRests_41 rfl (lv_at hl 5 rfl) ?_
            refine lv_iload hx hb dX7_seekRests_42 (lv_at hl 1 rfl) ?_
            refine lv_if_ne (tgt := 51) hx hb dX7_seekRests_44 (by decide) (fun _ => ?_) (fun c => absurd c (by decide))
            refine lv_iconst (v := 0) hx hb dX7_seekRests_51 (by decide) ?_
            refine lv_iload hx hb dX7_seekRests_52 (lv_at hl 0 rfl) ?_
            have hFc : ∀ q, va_A [] _ q → A q := fun q h => hA q (Nat.le_trans hS.1 (va_nilA h))
            refine va_calli (va_runS (As := [.int p0, .int 0, .int 1]) (rest := []) ⟨hx, hb, hml, hown, hts⟩ (tX7_speaksOf l dC dI _ p0 0 1 ) (va_cwS 3 hts (wd_S wd_1297 wd_1298 wd_5 (wd_c wd_1299)) rfl rfl rfl ds_yX7_speaksOf_3 ⟨Nat.le_of_ble_eq_true rfl, Nat.le_of_ble_eq_true rfl⟩) ⟨Pw.fb, fun U hU hW => Pn.to hK hE hS hA hU hW⟩ rfl rfl hl.1 rfl (lv_room (Nat.le_of_ble_eq_true rfl)) dX7_seekRests_54 ⟨Nat.le_of_ble_eq_true rfl, Nat.le_of_ble_eq_true rfl⟩) hS (fun q _ h => hFc q h) hFc (fun r u t H locs ht hvm hw hB hz1 hk1 hS => ?_)
            obtain ⟨hP, hD, hK⟩ := Bw.same ht hvm hP hD hK hk1 hFc
            clear hz1 hk1 hvm ht hB
            have hq9 := hw.2
            have hw := hw.1
            obtain ⟨x_3131, rfl⟩ : ∃ z, z = r := ⟨_, rfl⟩
            have hq_x_3131 := hq9
            have hG := hG.trans (lt_eq hq_x_3131.symm)
            have rg_x_3131 := fb_rng x_3131
            refine lv_iload_n hx hb dX7_seekRests_57 rfl (lv_at hl 5 rfl) ?_
            refine lv_iload hx hb dX7_seekRests_58 (lv_at hl 1 rfl) ?_
            refine lv_iload hx hb dX7_seekRests_60 (lv_at hl 0 rfl) ?_
            have hFc : ∀ q, va_A [] _ q → A q := fun q h => hA q (Nat.le_trans hS.1 (va_nilA h))
            refine va_calli (va_runS (As := [.int p0, .int 1, .int 1]) (rest := [.int x_3131]) ⟨hx, hb, hml, hown, hts⟩ (tX7_speaksOf l dC dI _ p0 1 1 ) (va_cwS 3 hts (wd_S wd_1297 wd_1298 wd_5 (wd_c wd_1299)) rfl rfl rfl ds_yX7_speaksOf_3 ⟨Nat.le_of_ble_eq_true rfl, Nat.le_of_ble_eq_true rfl⟩) ⟨Pw.fb, fun U hU hW => Pn.to hK hE hS hA hU hW⟩ rfl rfl hl.1 rfl (lv_room (Nat.le_of_ble_eq_true rfl)) dX7_seekRests_62 ⟨Nat.le_of_ble_eq_true rfl, Nat.le_of_ble_eq_true rfl⟩) hS (fun q _ h => hFc q h) hFc (fun r u t H locs ht hvm hw hB hz1 hk1 hS => ?_)
            obtain ⟨hP, hD, hK⟩ := Bw.same ht hvm hP hD hK hk1 hFc
            clear hz1 hk1 hvm ht hB
            have hq9 := hw.2
            have hw := hw.1
            obtain ⟨x_3132, rfl⟩ : ∃ z, z = r := ⟨_, rfl⟩
            have hq_x_3132 := hq9
            have hG := hG.trans (lt_eq hq_x_3132.symm)
            have rg_x_3132 := fb_rng x_3132
            refine lv_icmp_gt (tgt := 119) hx hb dX7_seekRests_65 (by decide) (fun c_3133 => ?_) (fun c_3133 => ?_)
            · skip
              have hG := hG.trans (if_pos c_3133)
              have gc_3133 := ti_lt c_3133 rfl rfl
              obtain ⟨x_3134, ex_3134⟩ : ∃ z : Int32, z = z_3063 + Int32.ofInt 1 := ⟨_, rfl⟩
              have hG := hG.trans (lt_eq ex_3134)
              have vx_3134 : x_3134.toInt = z_3063.toInt + 1 := ti_add (y := 1) ex_3134 rfl kc_1 (om_4e4fce7e hi0_n_3066.1) (om_71ed274a gc_3067)
              refine lv_iinc (v := x_3134) (lv' := [(3, .int x_3134), (5, .int 1), (4, .int 1), (2, .int z_3064), (0, .ref oM), (1, .int p0)]) hx hb dX7_seekRests_119 hl (k := 2) rfl ex_3134.symm (by decide) rfl (fun ls hl => ?_)
              refine lv_goto (tgt := 10) hx hb dX7_seekRests_122 (by decide) ?_
              exact ih_n_3066 x_3134 z_3064 z_3065 _ _ _  ⟨(om_83b90de5 hi0_n_3066.1 vx_3134), (om_d99ff3f9 gc_3067 vx_3134)⟩ (ms_lt hm_n_3066 (om_b9393183 vx_3134) (om_50af1673 gc_3067)) hG hP hD hS (lv_sub hl [0, 3, 4, 5] rfl)
            · skip
              have hG := hG.trans (if_neg c_3133)
              have gc_3133 := ti_nlt c_3133 rfl rfl
              refine lv_iload_n hx hb dX7_seekRests_68 rfl (lv_at hl 5 rfl) ?_
              refine lv_iload hx hb dX7_seekRests_69 (lv_at hl 0 rfl) ?_
              refine lv_if_ne (tgt := 78) hx hb dX7_seekRests_71 (by decide) (fun _ => ?_) (fun c => absurd c (by decide))
              refine lv_iconst (v := 0) hx hb dX7_seekRests_78 (by decide) ?_
              refine lv_iload hx hb dX7_seekRests_79 (lv_at hl 1 rfl) ?_
              have hFc : ∀ q, va_A [] _ q → A q := fun q h => hA q (Nat.le_trans hS.1 (va_nilA h))
              refine va_calli (va_runS (As := [.int p0, .int 0, .int 1]) (rest := []) ⟨hx, hb, hml, hown, hts⟩ (tX7_speaksOf l dC dI _ p0 0 1 ) (va_cwS 3 hts (wd_S wd_1297 wd_1298 wd_5 (wd_c wd_1299)) rfl rfl rfl ds_yX7_speaksOf_3 ⟨Nat.le_of_ble_eq_true rfl, Nat.le_of_ble_eq_true rfl⟩) ⟨Pw.fb, fun U hU hW => Pn.to hK hE hS hA hU hW⟩ rfl rfl hl.1 rfl (lv_room (Nat.le_of_ble_eq_true rfl)) dX7_seekRests_81 ⟨Nat.le_of_ble_eq_true rfl, Nat.le_of_ble_eq_true rfl⟩) hS (fun q _ h => hFc q h) hFc (fun r u t H locs ht hvm hw hB hz1 hk1 hS => ?_)
              obtain ⟨hP, hD, hK⟩ := Bw.same ht hvm hP hD hK hk1 hFc
              clear hz1 hk1 hvm ht hB
              have hq9 := hw.2
              have hw := hw.1
              obtain ⟨x_3136, rfl⟩ : ∃ z, z = r := ⟨_, rfl⟩
              have hq_x_3136 := hq9
              have hG := hG.trans (lt_eq hq_x_3136.symm)
              have rg_x_3136 := fb_rng x_3136
              refine lv_iload_n hx hb dX7_seekRests_84 rfl (lv_at hl 5 rfl) ?_
              refine lv_iload hx hb dX7_seekRests_85 (lv_at hl 0 rfl) ?_
              refine lv_iload hx hb dX7_seekRests_87 (lv_at hl 1 rfl) ?_
              have hFc : ∀ q, va_A [] _ q → A q := fun q h => hA q (Nat.le_trans hS.1 (va_nilA h))
              refine va_calli (va_runS (As := [.int p0, .int 1, .int 1]) (rest := [.int x_3136]) ⟨hx, hb, hml, hown, hts⟩ (tX7_speaksOf l dC dI _ p0 1 1 ) (va_cwS 3 hts (wd_S wd_1297 wd_1298 wd_5 (wd_c wd_1299)) rfl rfl rfl ds_yX7_speaksOf_3 ⟨Nat.le_of_ble_eq_true rfl, Nat.le_of_ble_eq_true rfl⟩) ⟨Pw.fb, fun U hU hW => Pn.to hK hE hS hA hU hW⟩ rfl rfl hl.1 rfl (lv_room (Nat.le_of_ble_eq_true rfl)) dX7_seekRests_89 ⟨Nat.le_of_ble_eq_true rfl, Nat.le_of_ble_eq_true rfl⟩) hS (fun q _ h => hFc q h) hFc (fun r u t H locs ht hvm hw hB hz1 hk1 hS => ?_)
              obtain ⟨hP, hD, hK⟩ := Bw.same ht hvm hP hD hK hk1 hFc
              clear hz1 hk1 hvm ht hB
              have hq9 := hw.2
              have hw := hw.1
              obtain ⟨x_3137, rfl⟩ : ∃ z, z = r := ⟨_, rfl⟩
              have hq_x_3137 := hq9
              have hG := hG.trans (lt_eq hq_x_3137.symm)
              have rg_x_3137 := fb_rng x_3137
              refine lv_icmp_le (tgt := 98) hx hb dX7_seekRests_92 (by decide) (fun c_3138 => ?_) (fun c_3138 => ?_)
              · skip
                have hG := hG.trans (if_pos c_3138)
                have gc_3138 := ti_le c_3138 rfl rfl
                refine lv_iload_n hx hb dX7_seekRests_98 rfl (lv_at hl 3 rfl) ?_
                refine lv_if_ne (tgt := 116) hx hb dX7_seekRests_99 (by decide) (fun c_3139 => ?_) (fun c_3139 => ?_)
                · skip
                  have hG := hG.trans (if_neg c_3139)
                  have gc_3139 := ti_ne c_3139 rfl kc_0
                  obtain ⟨x_3140, ex_3140⟩ : ∃ z : Int32, z = z_3064 + Int32.ofInt 1 := ⟨_, rfl⟩
                  have hG := hG.trans (lt_eq ex_3140)
                  have rg_x_3140 := fb_rng x_3140
                  refine lv_iinc (v := x_3140) (lv' := [(2, .int x_3140), (5, .int 1), (4, .int 1), (3, .int z_3063), (0, .ref oM), (1, .int p0)]) hx hb dX7_seekRests_116 hl (k := 3) rfl ex_3140.symm (by decide) rfl (fun ls hl => ?_)
                  obtain ⟨x_3141, ex_3141⟩ : ∃ z : Int32, z = z_3063 + Int32.ofInt 1 := ⟨_, rfl⟩
                  have hG := hG.trans (lt_eq ex_3141)
                  have vx_3141 : x_3141.toInt = z_3063.toInt + 1 := ti_add (y := 1) ex_3141 rfl kc_1 (om_4e4fce7e hi0_n_3066.1) (om_71ed274a gc_3067)
                  refine lv_iinc (v := x_3141) (lv' := [(3, .int x_3141), (2, .int x_3140), (5, .int 1), (4, .int 1), (0, .ref oM), (1, .int p0)]) hx hb dX7_seekRests_119 hl (k := 3) rfl ex_3141.symm (by decide) rfl (fun ls hl => ?_)
                  refine lv_goto (tgt := 10) hx hb dX7_seekRests_122 (by decide) ?_
                  exact ih_n_3066 x_3141 x_3140 z_3065 _ _ _  ⟨(om_83b90de5 hi0_n_3066.1 vx_3141), (om_d99ff3f9 gc_3067 vx_3141)⟩ (ms_lt hm_n_3066 (om_b9393183 vx_3141) (om_50af1673 gc_3067)) hG hP hD hS (lv_sub hl [0, 1, 4, 5] rfl)
                · skip
                  have hG := hG.trans (if_pos c_3139)
                  have gc_3139 := ti_eq c_3139 rfl kc_0
                  refine lv_aload_n hx hb dX7_seekRests_102 rfl (lv_at hl 4 rfl) ?_
                  refine lv_bipush (v := 10) hx hb dX7_seekRests_103 (by decide) ?_
                  refine lv_iload_n hx hb dX7_seekRests_105 rfl (lv_at hl 2 rfl) ?_
                  refine lv_iconst (v := 2) hx hb dX7_seekRests_106 (by decide) ?_
                  refine lv_idiv hx hb dX7_seekRests_107 (by decide) ?_
                  refine lv_topi (fun x_3142 ex_3142 => ?_)
                  have hG := hG.trans (lt_eq ex_3142)
                  have rg_x_3142 := fb_rng x_3142
                  have qx_3142 := ti_div ex_3142 rfl kc_2 hi0_n_3066.1 (by decide)
                  have Qx_3142 := ti_divE ex_3142 rfl kc_2 hi0_n_3066.1 (by decide)
                  refine lv_imul hx hb dX7_seekRests_108 ?_
                  refine lv_topi (fun x_3143 ex_3143 => ?_)
                  have hG := hG.trans (lt_eq ex_3143)
                  have vx_3143 : x_3143.toInt = 10 * x_3142.toInt := ti_mul ex_3143 kc_10 rfl (om_01615985 qx_3142.1) (om_e51e3a41 gc_3067 qx_3142.2)
                  refine lv_iload_n hx hb dX7_seekRests_109 rfl (lv_at hl 2 rfl) ?_
                  refine lv_iconst (v := 2) hx hb dX7_seekRests_110 (by decide) ?_
                  refine lv_irem hx hb dX7_seekRests_111 (by decide) ?_
                  refine lv_topi (fun x_3144 ex_3144 => ?_)
                  have hG := hG.trans (lt_eq ex_3144)
                  have rg_x_3144 := fb_rng x_3144
                  have qx_3144 := ti_rem ex_3144 rfl kc_2 hi0_n_3066.1 (by decide)
                  have Qx_3144 := ti_remE ex_3144 rfl kc_2 hi0_n_3066.1 (by decide)
                  refine lv_iadd hx hb dX7_seekRests_112 ?_
                  refine lv_topi (fun x_3145 ex_3145 => ?_)
                  have hG := hG.trans (lt_eq ex_3145)
                  have vx_3145 : x_3145.toInt = 10 * x_3142.toInt + x_3144.toInt := om_eaf66da5 (ti_add ex_3145 vx_3143 rfl (om_793baeb6 qx_3142.1 qx_3144.1) (om_ffe800b0 gc_3067 qx_3142.2 qx_3144.2.1))
                  refine va_put (D := (dC, dI)) (ci := 7) (v := .int x_3145) (ty := .int) (C := RX7) (T := TX7) (N := 48) hx hb hts inX7 tyX7 tyX7_ok nmX7 hown hK hP hD hS 0 rfl rfl 46 (by decide) (hts _ wd_1315) (fun _ h9 => h9) rfl (by decide +kernel) rfl rfl (Nat.le_of_ble_eq_true rfl) dX7_seekRests_113 (fun H locs hP hD hS => ?_)
                  obtain ⟨hP, hD⟩ := wl2 (ws' := [(oc7 oM iM_thrown rM_tape iM_taped iM_size iM_at iM_end iM_token iM_whole iM_nameSize iM_fault iM_place iM_trouble rM_letters iM_failed iM_hasCourt rM_r rM_fresh rM_told rM_read rM_st rM_undone rM_kept iM_undos iM_images rM_fresher iM_fresherSize iM_scale iM_night rM_heardRow rM_cutRow iM_breaths iM_cutMany iM_allBreaths rM_trial rM_words iM_fewestBreaths iM_orderMany iM_orderSum iM_leastOrder rM_often iM_setMany iM_someOf iM_allOf iM_allWeight iM_enoughWeight iM_worthSum x_3145 iM_leastDrawn)]) hP hD rfl
                  obtain ⟨x_3146, ex_3146⟩ : ∃ z : Int32, z = z_3064 + Int32.ofInt 1 := ⟨_, rfl⟩
                  have hG := hG.trans (lt_eq ex_3146)
                  have vx_3146 : x_3146.toInt = z_3064.toInt + 1 := ti_add (y := 1) ex_3146 rfl kc_1 (om_3da4737a gc_3139) (om_f4fb5b9a gc_3139)
                  refine lv_iinc (v := x_3146) (lv' := [(2, .int x_3146), (5, .int 1), (4, .int 1), (3, .int z_3063), (0, .ref oM), (1, .int p0)]) hx hb dX7_seekRests_116 hl (k := 3) rfl ex_3146.symm (by decide) rfl (fun ls hl => ?_)
                  obtain ⟨x_3147, ex_3147⟩ : ∃ z : Int32, z = z_3063 + Int32.ofInt 1 := ⟨_, rfl⟩
                  have hG := hG.trans (lt_eq ex_3147)
                  have vx_3147 : x_3147.toInt = z_3063.toInt + 1 := ti_add (y := 1) ex_3147 rfl kc_1 (om_4e4fce7e hi0_n_3066.1) (om_71ed274a gc_3067)
                  refine lv_iinc (v := x_3147) (lv' := [(3, .int x_3147), (2, .int x_3146), (5, .int 1), (4, .int 1), (0, .ref oM), (1, .int p0)]) hx hb dX7_seekRests_119 hl (k := 3) rfl ex_3147.symm (by decide) rfl (fun ls hl => ?_)
                  refine lv_goto (tgt := 10) hx hb dX7_seekRests_122 (by decide) ?_
                  exact ih_n_3066 x_3147 x_3146 x_3145 _ _ _  ⟨(om_83b90de5 hi0_n_3066.1 vx_3147), (om_d99ff3f9 gc_3067 vx_3147)⟩ (ms_lt hm_n_3066 (om_b9393183 vx_3147) (om_50af1673 gc_3067)) hG hP hD hS (lv_sub hl [0, 1, 4, 5] rfl)
              · skip
                have hG := hG.trans (if_neg c_3138)
                have gc_3138 := ti_nle c_3138 rfl rfl
                refine lv_goto (tgt := 119) hx hb dX7_seekRests_95 (by decide) ?_
                obtain ⟨x_3148, ex_3148⟩ : ∃ z : Int32, z = z_3063 + Int32.ofInt 1 := ⟨_, rfl⟩
                have hG := hG.trans (lt_eq ex_3148)
                have vx_3148 : x_3148.toInt = z_3063.toInt + 1 := ti_add (y := 1) ex_3148 rfl kc_1 (om_4e4fce7e hi0_n_3066.1) (om_71ed274a gc_3067)
                refine lv_iinc (v := x_3148) (lv' := [(3, .int x_3148), (5, .int 1), (4, .int 1), (2, .int z_3064), (0, .ref oM), (1, .int p0)]) hx hb dX7_seekRests_119 hl (k := 2) rfl ex_3148.symm (by decide) rfl (fun ls hl => ?_)
                refine lv_goto (tgt := 10) hx hb dX7_seekRests_122 (by decide) ?_
                exact ih_n_3066 x_3148 z_3064 z_3065 _ _ _  ⟨(om_83b90de5 hi0_n_3066.1 vx_3148), (om_d99ff3f9 gc_3067 vx_3148)⟩ (ms_lt hm_n_3066 (om_b9393183 vx_3148) (om_50af1673 gc_3067)) hG hP hD hS (lv_sub hl [0, 3, 4, 5] rfl)
  exact key_n_3066 (((2147483647 - (0 : Int32).toInt).toNat) + 1) 0 0 (-2) _ _ _  ⟨(om_b1de7dbe kc_0), (om_daf17c64 kc_0)⟩ (Nat.lt_add_one _) hG hP hD hS hl
set_option maxHeartbeats 4000000 in
set_option maxRecDepth 100000 in
theorem tX7_rests (l : Launch) (dC : Nat → ClassId) (dI : Nat → Nat → Nat) (sz : Nat) (oM : Nat) (iM_thrown : Int32) (rM_tape : Nat) (iM_taped : Int32) (iM_size : Int32) (iM_at : Int32) (iM_end : Int32) (iM_token : Int32) (iM_whole : Int32) (iM_nameSize : Int32) (iM_fault : Int32) (iM_place : Int32) (iM_trouble : Int32) (rM_letters : Nat) (iM_failed : Int32) (iM_hasCourt : Int32) (rM_r : Nat) (fM_r : Nat → Int32) (kM_r : ClassId) (rM_fresh : Nat) (rM_told : Nat) (rM_read : Nat) (rM_st : Nat) (rM_undone : Nat) (rM_kept : Nat) (iM_undos : Int32) (iM_images : Int32) (rM_fresher : Nat) (iM_fresherSize : Int32) (iM_scale : Int32) (iM_night : Int32) (rM_heardRow : Nat) (rM_cutRow : Nat) (iM_breaths : Int32) (iM_cutMany : Int32) (iM_allBreaths : Int32) (rM_trial : Nat) (rM_words : Nat) (iM_fewestBreaths : Int32) (iM_orderMany : Int32) (iM_orderSum : Int32) (iM_leastOrder : Int32) (rM_often : Nat) (iM_setMany : Int32) (iM_someOf : Int32) (iM_allOf : Int32) (iM_allWeight : Int64) (iM_enoughWeight : Int64) (iM_worthSum : Int64) (iM_firstRest : Int32) (iM_leastDrawn : Int32) (p0 : Int32) (b_iM_taped : 0 ≤ iM_taped.toInt ∧ iM_taped.toInt ≤ 900) (b_iM_size : 0 ≤ iM_size.toInt ∧ iM_size.toInt ≤ 900) (b_iM_end : 0 ≤ iM_end.toInt ∧ iM_end.toInt ≤ 900) (b_iM_failed : 0 ≤ iM_failed.toInt ∧ iM_failed.toInt ≤ 1) (b_iM_hasCourt : 0 ≤ iM_hasCourt.toInt ∧ iM_hasCourt.toInt ≤ 1) (b_iM_undos : 0 ≤ iM_undos.toInt ∧ iM_undos.toInt ≤ 16) (b_iM_images : 0 ≤ iM_images.toInt ∧ iM_images.toInt ≤ 3) (b_iM_scale : 1 ≤ iM_scale.toInt ∧ iM_scale.toInt ≤ 1296) (b_iM_breaths : 0 ≤ iM_breaths.toInt ∧ iM_breaths.toInt ≤ 399) (b_iM_cutMany : 0 ≤ iM_cutMany.toInt ∧ iM_cutMany.toInt ≤ 399) (r_R : ROk fM_r) (r_C : iM_hasCourt.toInt ≤ 0 ∨ (1 ≤ (fM_r 1).toInt ∧ 0 ≤ (fM_r 6).toInt ∧ (fM_r 6).toInt < (fM_r 1).toInt))  : Met l yX7_rests (Cond.code yX7_rests cX7_rests 3 (some .int) :: wG) ({ frames := 2, cells := 0, slots := 0, locals := 47 }) (va_Pc [.ref oM, .int p0] (Pw dC dI sz [(oc7 oM iM_thrown rM_tape iM_taped iM_size iM_at iM_end iM_token iM_whole iM_nameSize iM_fault iM_place iM_trouble rM_letters iM_failed iM_hasCourt rM_r rM_fresh rM_told rM_read rM_st rM_undone rM_kept iM_undos iM_images rM_fresher iM_fresherSize iM_scale iM_night rM_heardRow rM_cutRow iM_breaths iM_cutMany iM_allBreaths rM_trial rM_words iM_fewestBreaths iM_orderMany iM_orderSum iM_leastOrder rM_often iM_setMany iM_someOf iM_allOf iM_allWeight iM_enoughWeight iM_worthSum iM_firstRest iM_leastDrawn), (arI rM_r kM_r 287 fM_r)] [(kM_r, .int)])) (va_Qi (fun (r : Int32) (u : Nat) => (True ∧ True) ∧ r = Int32.ofNat u) (fun (u : Nat) (t : State) => ∃ (niM_thrown : Int32) (niM_trouble : Int32) (niM_firstRest : Int32), (PX7_rests iM_hasCourt iM_firstRest p0 = (Int32.ofNat u, niM_thrown, niM_trouble, niM_firstRest)) ∧ Bw dC dI (va_A [(oc7 oM iM_thrown rM_tape iM_taped iM_size iM_at iM_end iM_token iM_whole iM_nameSize iM_fault iM_place iM_trouble rM_letters iM_failed iM_hasCourt rM_r rM_fresh rM_told rM_read rM_st rM_undone rM_kept iM_undos iM_images rM_fresher iM_fresherSize iM_scale iM_night rM_heardRow rM_cutRow iM_breaths iM_cutMany iM_allBreaths rM_trial rM_words iM_fewestBreaths iM_orderMany iM_orderSum iM_leastOrder rM_often iM_setMany iM_someOf iM_allOf iM_allWeight iM_enoughWeight iM_worthSum iM_firstRest iM_leastDrawn), (arI rM_r kM_r 287 fM_r)] sz) [(oc7 oM niM_thrown rM_tape iM_taped iM_size iM_at iM_end iM_token iM_whole iM_nameSize iM_fault iM_place niM_trouble rM_letters iM_failed iM_hasCourt rM_r rM_fresh rM_told rM_read rM_st rM_undone rM_kept iM_undos iM_images rM_fresher iM_fresherSize iM_scale iM_night rM_heardRow rM_cutRow iM_breaths iM_cutMany iM_allBreaths rM_trial rM_words iM_fewestBreaths iM_orderMany iM_orderSum iM_leastOrder rM_often iM_setMany iM_someOf iM_allOf iM_allWeight iM_enoughWeight iM_worthSum niM_firstRest iM_leastDrawn), (arI rM_r kM_r 287 fM_r)] [(kM_r, .int)] t) (va_A [(oc7 oM iM_thrown rM_tape iM_taped iM_size iM_at iM_end iM_token iM_whole iM_nameSize iM_fault iM_place iM_trouble rM_letters iM_failed iM_hasCourt rM_r rM_fresh rM_told rM_read rM_st rM_undone rM_kept iM_undos iM_images rM_fresher iM_fresherSize iM_scale iM_night rM_heardRow rM_cutRow iM_breaths iM_cutMany iM_allBreaths rM_trial rM_words iM_fewestBreaths iM_orderMany iM_orderSum iM_leastOrder rM_often iM_setMany iM_someOf iM_allOf iM_allWeight iM_enoughWeight iM_worthSum iM_firstRest iM_leastDrawn), (arI rM_r kM_r 287 fM_r)] sz)) 0 0 (va_A [(oc7 oM iM_thrown rM_tape iM_taped iM_size iM_at iM_end iM_token iM_whole iM_nameSize iM_fault iM_place iM_trouble rM_letters iM_failed iM_hasCourt rM_r rM_fresh rM_told rM_read rM_st rM_undone rM_kept iM_undos iM_images rM_fresher iM_fresherSize iM_scale iM_night rM_heardRow rM_cutRow iM_breaths iM_cutMany iM_allBreaths rM_trial rM_words iM_fewestBreaths iM_orderMany iM_orderSum iM_leastOrder rM_often iM_setMany iM_someOf iM_allOf iM_allWeight iM_enoughWeight iM_worthSum iM_firstRest iM_leastDrawn), (arI rM_r kM_r 287 fM_r)] sz) := by
  refine Met.ofW (cc := cX7_rests) (maxL := 3) (ret := (some .int)) pnX7 rfl ?_
  intro p e s m args below meth c s₁ B hml hv
  obtain ⟨rfl, hsz, hP, hK, hD0, hE⟩ := hv
  have hx := B.exec
  have hb := B.bytes
  have hr := B.returns
  have hts : ∀ w ∈ wG, w.before ([.ref oM, .int p0] : List Value).toArray s = true := fun w h => atoms_spec (ws := Cond.code yX7_rests cX7_rests 3 (some .int) :: wG) B.pre w (List.mem_cons_of_mem _ h)
  have hown : s.vm.findClass RX7 = some m.cls := own_of B.named rfl
  have hlocks := B.notSynchronized
  subst hsz
  have hD := hD0.self (sz := s.heap.size)
  generalize hAe : va_A [(oc7 oM iM_thrown rM_tape iM_taped iM_size iM_at iM_end iM_token iM_whole iM_nameSize iM_fault iM_place iM_trouble rM_letters iM_failed iM_hasCourt rM_r rM_fresh rM_told rM_read rM_st rM_undone rM_kept iM_undos iM_images rM_fresher iM_fresherSize iM_scale iM_night rM_heardRow rM_cutRow iM_breaths iM_cutMany iM_allBreaths rM_trial rM_words iM_fewestBreaths iM_orderMany iM_orderSum iM_leastOrder rM_often iM_setMany iM_someOf iM_allOf iM_allWeight iM_enoughWeight iM_worthSum iM_firstRest iM_leastDrawn), (arI rM_r kM_r 287 fM_r)] s.heap.size = A at hD hE ⊢
  have hA : ∀ q : Nat, s.heap.size ≤ q → A q := fun q h => by rw [← hAe]; exact Or.inr h
  have hS : va_S A s.heap s.heap [] := va_S.rf
  have hl := lv_entry ([.ref oM, .int p0]) (n := 3) (Nat.le_of_ble_eq_true rfl)
  rw [lg_entry_eq]
  generalize (lg_sl ([.ref oM, .int p0]) ++ List.replicate (3 - (lg_sl ([.ref oM, .int p0])).length) Slot.unset).toArray = ls at hl ⊢
  have hl : lv_has ls 3 [(0, .ref oM), (1, .int p0)] := hl
  have hG := PX7_rests_eq iM_hasCourt iM_firstRest p0
  have s_slips := r_R.slips
  have s_nodes := r_R.nodes
  have s_uns := r_R.uns
  refine lv_aload_n hx hb dX7_rests_0 rfl (lv_at hl 0 rfl) ?_
  have hMs := ml_of hD [true, false] (wc := [(oc7 oM iM_thrown rM_tape iM_taped iM_size iM_at iM_end iM_token iM_whole iM_nameSize iM_fault iM_place iM_trouble rM_letters iM_failed iM_hasCourt rM_r rM_fresh rM_told rM_read rM_st rM_undone rM_kept iM_undos iM_images rM_fresher iM_fresherSize iM_scale iM_night rM_heardRow rM_cutRow iM_breaths iM_cutMany iM_allBreaths rM_trial rM_words iM_fewestBreaths iM_orderMany iM_orderSum iM_leastOrder rM_often iM_setMany iM_someOf iM_allOf iM_allWeight iM_enoughWeight iM_worthSum iM_firstRest iM_leastDrawn)]) rfl
  have hFc := va_freeM hD hS hA _ hMs
  refine va_callv (va_runV (As := []) (rest := []) ⟨hx, hb, hml, hown, hts⟩ (tX7_good l dC dI _ oM iM_thrown rM_tape iM_taped iM_size iM_at iM_end iM_token iM_whole iM_nameSize iM_fault iM_place iM_trouble rM_letters iM_failed iM_hasCourt rM_r rM_fresh rM_told rM_read rM_st rM_undone rM_kept iM_undos iM_images rM_fresher iM_fresherSize iM_scale iM_night rM_heardRow rM_cutRow iM_breaths iM_cutMany iM_allBreaths rM_trial rM_words iM_fewestBreaths iM_orderMany iM_orderSum iM_leastOrder rM_often iM_setMany iM_someOf iM_allOf iM_allWeight iM_enoughWeight iM_worthSum iM_firstRest iM_leastDrawn b_iM_taped b_iM_size b_iM_end b_iM_failed b_iM_hasCourt b_iM_undos b_iM_images b_iM_scale b_iM_breaths b_iM_cutMany) (cwV 0 hts (wd_V wd_388 wd_389 wd_390 wd_5 (wd_c wd_391)) rfl rfl rfl dv_yX7_good_0 ⟨Nat.le_of_ble_eq_true rfl, Nat.le_of_ble_eq_true rfl⟩) ⟨Pw.fb, recvX7 hK hP (q0 := 0) rfl, fun U hU hW => Pw.to (hP.ms _ hMs) (hD.ms _ hMs) (hK.ms [false] rfl) hE hS hFc hU hW⟩ rfl rfl hl.1 rfl (lv_room (Nat.le_of_ble_eq_true rfl)) dX7_rests_1 ⟨Nat.le_of_ble_eq_true rfl, Nat.le_of_ble_eq_true rfl⟩) hS (fun q _ h => hFc q h) hFc (fun u t H locs ht hvm hw hB hz1 hk1 hS => ?_)
  refine ex_2_3 hB (fun x_3162 x_3163 b_x_3162 b_x_3163 e_x_3162_0 hB => ?_)
  obtain ⟨hP, hD⟩ := Bw.goN (ws' := [(oc7 oM x_3162 rM_tape iM_taped iM_size iM_at iM_end iM_token iM_whole iM_nameSize iM_fault iM_place x_3163 rM_letters iM_failed iM_hasCourt rM_r rM_fresh rM_told rM_read rM_st rM_undone rM_kept iM_undos iM_images rM_fresher iM_fresherSize iM_scale iM_night rM_heardRow rM_cutRow iM_breaths iM_cutMany iM_allBreaths rM_trial rM_words iM_fewestBreaths iM_orderMany iM_orderSum iM_leastOrder rM_often iM_setMany iM_someOf iM_allOf iM_allWeight iM_enoughWeight iM_worthSum iM_firstRest iM_leastDrawn), (arI rM_r kM_r 287 fM_r)]) hB rfl ht hP hD _ hMs hk1 hFc rfl
  clear hz1 hk1 hvm ht hB hMs
  have hG := hG.trans (un2_eq e_x_3162_0)
  refine lv_aload_n hx hb dX7_rests_4 rfl (lv_at hl 0 rfl) ?_
  refine lv_iload_n hx hb dX7_rests_5 rfl (lv_at hl 1 rfl) ?_
  refine lv_iconst (v := 0) hx hb dX7_rests_6 (by decide) ?_
  refine lv_bipush (v := 9) hx hb dX7_rests_7 (by decide) ?_
  have hFc : ∀ q, va_A [] _ q → A q := fun q h => hA q (Nat.le_trans hS.1 (va_nilA h))
  refine va_calli (va_runS (As := [.int p0, .int 0, .int 9]) (rest := [.ref oM]) ⟨hx, hb, hml, hown, hts⟩ (tX7_in l dC dI _ p0 0 9 ) (va_cwS 3 hts (wd_S wd_393 wd_394 wd_5 (wd_c wd_395)) rfl rfl rfl ds_yX7_in_3 ⟨Nat.le_of_ble_eq_true rfl, Nat.le_of_ble_eq_true rfl⟩) ⟨Pw.fb, fun U hU hW => Pn.to hK hE hS hA hU hW⟩ rfl rfl hl.1 rfl (lv_room (Nat.le_of_ble_eq_true rfl)) dX7_rests_9 ⟨Nat.le_of_ble_eq_true rfl, Nat.le_of_ble_eq_true rfl⟩) hS (fun q _ h => hFc q h) hFc (fun r u t H locs ht hvm hw hB hz1 hk1 hS => ?_)
  obtain ⟨hP, hD, hK⟩ := Bw.same ht hvm hP hD hK hk1 hFc
  clear hz1 hk1 hvm ht hB
  have hq9 := hw.2
  have hw := hw.1
  obtain ⟨x_3164, rfl⟩ : ∃ z, z = r := ⟨_, rfl⟩
  have hq_x_3164 := hq9
  have hG := hG.trans (lt_eq hq_x_3164.symm)
  have bx_3164 := hw.1
  have dx_3164 := bz_tb bx_3164
  have px_3164 := hw.2
  have hFc := va_freeI hD hS hA
  refine va_calli (va_runV (As := [.int x_3164]) (rest := []) ⟨hx, hb, hml, hown, hts⟩ (tX7_why l dC dI _ oM x_3162 rM_tape iM_taped iM_size iM_at iM_end iM_token iM_whole iM_nameSize iM_fault iM_place x_3163 rM_letters iM_failed iM_hasCourt rM_r fM_r kM_r rM_fresh rM_told rM_read rM_st rM_undone rM_kept iM_undos iM_images rM_fresher iM_fresherSize iM_scale iM_night rM_heardRow rM_cutRow iM_breaths iM_cutMany iM_allBreaths rM_trial rM_words iM_fewestBreaths iM_orderMany iM_orderSum iM_leastOrder rM_often iM_setMany iM_someOf iM_allOf iM_allWeight iM_enoughWeight iM_worthSum iM_firstRest iM_leastDrawn x_3164 b_iM_taped b_iM_size b_iM_end b_iM_failed b_iM_hasCourt b_iM_undos b_iM_images b_iM_scale b_iM_breaths b_iM_cutMany (by assumption) (by assumption) ⟨dx_3164.1, dx_3164.2⟩) (cwV 1 hts (wd_V wd_882 wd_883 wd_884 wd_5 (wd_c wd_885)) rfl rfl rfl dv_yX7_why_1 ⟨Nat.le_of_ble_eq_true rfl, Nat.le_of_ble_eq_true rfl⟩) ⟨Pw.fb, recvX7 hK hP (q0 := 0) rfl, fun U hU hW => Pw.to hP hD hK hE hS hFc hU hW⟩ rfl rfl hl.1 rfl (lv_room (Nat.le_of_ble_eq_true rfl)) dX7_rests_12 ⟨Nat.le_of_ble_eq_true rfl, Nat.le_of_ble_eq_true rfl⟩) hS (fun q _ h => hFc q h) hFc (fun r u t H locs ht hvm hw hB hz1 hk1 hS => ?_)
  have hru9 := hw.2
  have hw := hw.1
  obtain ⟨hP, hD⟩ := Bw.goA (ws' := [(oc7 oM x_3162 rM_tape iM_taped iM_size iM_at iM_end iM_token iM_whole iM_nameSize iM_fault iM_place x_3163 rM_letters iM_failed iM_hasCourt rM_r rM_fresh rM_told rM_read rM_st rM_undone rM_kept iM_undos iM_images rM_fresher iM_fresherSize iM_scale iM_night rM_heardRow rM_cutRow iM_breaths iM_cutMany iM_allBreaths rM_trial rM_words iM_fewestBreaths iM_orderMany iM_orderSum iM_leastOrder rM_often iM_setMany iM_someOf iM_allOf iM_allWeight iM_enoughWeight iM_worthSum iM_firstRest iM_leastDrawn), (arI rM_r kM_r 287 fM_r)]) hB rfl ht hFc rfl
  clear hz1 hk1 hvm ht hB
  rcases hw.2 with ⟨rfl, hc_3165⟩ | ⟨rfl, hc_3165⟩ | ⟨rfl, hc_3165⟩
  · skip
    have hG := hG.trans (lt_eq hru9.symm)
    have hG := hG.trans (if_pos rfl)
    refine lv_istore_n (lv' := [(2, .int 0), (0, .ref oM), (1, .int p0)]) hx hb dX7_rests_15 rfl hl (by decide) rfl (fun ls hl => ?_)
    refine lv_iload_n hx hb dX7_rests_16 rfl (lv_at hl 0 rfl) ?_
    refine lv_if_eq (tgt := 28) hx hb dX7_rests_17 (by decide) (fun _ => ?_) (fun c => absurd c (by decide))
    refine lv_aload_n hx hb dX7_rests_28 rfl (lv_at hl 1 rfl) ?_
    refine lv_iload_n hx hb dX7_rests_29 rfl (lv_at hl 2 rfl) ?_
    have hMs := ml_of hD [true, false] (wc := [(oc7 oM x_3162 rM_tape iM_taped iM_size iM_at iM_end iM_token iM_whole iM_nameSize iM_fault iM_place x_3163 rM_letters iM_failed iM_hasCourt rM_r rM_fresh rM_told rM_read rM_st rM_undone rM_kept iM_undos iM_images rM_fresher iM_fresherSize iM_scale iM_night rM_heardRow rM_cutRow iM_breaths iM_cutMany iM_allBreaths rM_trial rM_words iM_fewestBreaths iM_orderMany iM_orderSum iM_leastOrder rM_often iM_setMany iM_someOf iM_allOf iM_allWeight iM_enoughWeight iM_worthSum iM_firstRest iM_leastDrawn)]) rfl
    have hFc := va_freeM hD hS hA _ hMs
    refine va_calli (va_runV (As := [.int p0]) (rest := []) ⟨hx, hb, hml, hown, hts⟩ (tX7_seekRests l dC dI _ oM x_3162 rM_tape iM_taped iM_size iM_at iM_end iM_token iM_whole iM_nameSize iM_fault iM_place x_3163 rM_letters iM_failed iM_hasCourt rM_r rM_fresh rM_told rM_read rM_st rM_undone rM_kept iM_undos iM_images rM_fresher iM_fresherSize iM_scale iM_night rM_heardRow rM_cutRow iM_breaths iM_cutMany iM_allBreaths rM_trial rM_words iM_fewestBreaths iM_orderMany iM_orderSum iM_leastOrder rM_often iM_setMany iM_someOf iM_allOf iM_allWeight iM_enoughWeight iM_worthSum iM_firstRest iM_leastDrawn p0 b_iM_taped b_iM_size b_iM_end b_iM_failed b_iM_hasCourt b_iM_undos b_iM_images b_iM_scale b_iM_breaths b_iM_cutMany) (cwV 1 hts (wd_V wd_1311 wd_1312 wd_1313 wd_5 (wd_c wd_1314)) rfl rfl rfl dv_yX7_seekRests_1 ⟨Nat.le_of_ble_eq_true rfl, Nat.le_of_ble_eq_true rfl⟩) ⟨Pw.fb, recvX7 hK hP (q0 := 0) rfl, fun U hU hW => Pw.to (hP.ms _ hMs) (hD.ms _ hMs) (hK.ms [false] rfl) hE hS hFc hU hW⟩ rfl rfl hl.1 rfl (lv_room (Nat.le_of_ble_eq_true rfl)) dX7_rests_30 ⟨Nat.le_of_ble_eq_true rfl, Nat.le_of_ble_eq_true rfl⟩) hS (fun q _ h => hFc q h) hFc (fun r u t H locs ht hvm hw hB hz1 hk1 hS => ?_)
    have hru9 := hw.2
    have hw := hw.1
    refine ex_1_1 hB (fun x_3168 e_x_3168_0 hB => ?_)
    obtain ⟨hP, hD⟩ := Bw.goN (ws' := [(oc7 oM x_3162 rM_tape iM_taped iM_size iM_at iM_end iM_token iM_whole iM_nameSize iM_fault iM_place x_3163 rM_letters iM_failed iM_hasCourt rM_r rM_fresh rM_told rM_read rM_st rM_undone rM_kept iM_undos iM_images rM_fresher iM_fresherSize iM_scale iM_night rM_heardRow rM_cutRow iM_breaths iM_cutMany iM_allBreaths rM_trial rM_words iM_fewestBreaths iM_orderMany iM_orderSum iM_leastOrder rM_often iM_setMany iM_someOf iM_allOf iM_allWeight iM_enoughWeight iM_worthSum x_3168 iM_leastDrawn), (arI rM_r kM_r 287 fM_r)]) hB rfl ht hP hD _ hMs hk1 hFc rfl
    clear hz1 hk1 hvm ht hB hMs
    rw [← hru9] at e_x_3168_0
    obtain ⟨x_3169, rfl⟩ : ∃ z, z = r := ⟨_, rfl⟩
    have hG := hG.trans (un2_eq e_x_3168_0)
    exact wq_i hx hb hr (cI x_3169) ⟨⟨trivial, trivial⟩, (cI_of x_3169)⟩ (fun t ht hW => ⟨x_3162, x_3163, x_3168, (cI_tup hG), Bw.to hP hD hK ht hW⟩) hS dX7_rests_33 hlocks
  · skip
    have hG := hG.trans (lt_eq hru9.symm)
    have hG := hG.trans (if_neg (by decide))
    have hG := hG.trans (if_pos rfl)
    refine lv_istore_n (lv' := [(2, .int 1), (0, .ref oM), (1, .int p0)]) hx hb dX7_rests_15 rfl hl (by decide) rfl (fun ls hl => ?_)
    refine lv_iload_n hx hb dX7_rests_16 rfl (lv_at hl 0 rfl) ?_
    refine lv_if_eq (tgt := 28) hx hb dX7_rests_17 (by decide) (fun c => absurd c (by decide)) (fun _ => ?_)
    refine lv_aload_n hx hb dX7_rests_20 rfl (lv_at hl 1 rfl) ?_
    refine lv_iload_n hx hb dX7_rests_21 rfl (lv_at hl 0 rfl) ?_
    have hMs := ml_of hD [true, false] (wc := [(oc7 oM x_3162 rM_tape iM_taped iM_size iM_at iM_end iM_token iM_whole iM_nameSize iM_fault iM_place x_3163 rM_letters iM_failed iM_hasCourt rM_r rM_fresh rM_told rM_read rM_st rM_undone rM_kept iM_undos iM_images rM_fresher iM_fresherSize iM_scale iM_night rM_heardRow rM_cutRow iM_breaths iM_cutMany iM_allBreaths rM_trial rM_words iM_fewestBreaths iM_orderMany iM_orderSum iM_leastOrder rM_often iM_setMany iM_someOf iM_allOf iM_allWeight iM_enoughWeight iM_worthSum iM_firstRest iM_leastDrawn)]) rfl
    have hFc := va_freeM hD hS hA _ hMs
    refine va_calli (va_runV (As := [.int 1]) (rest := []) ⟨hx, hb, hml, hown, hts⟩ (tX7_no l dC dI _ oM x_3162 rM_tape iM_taped iM_size iM_at iM_end iM_token iM_whole iM_nameSize iM_fault iM_place x_3163 rM_letters iM_failed iM_hasCourt rM_r rM_fresh rM_told rM_read rM_st rM_undone rM_kept iM_undos iM_images rM_fresher iM_fresherSize iM_scale iM_night rM_heardRow rM_cutRow iM_breaths iM_cutMany iM_allBreaths rM_trial rM_words iM_fewestBreaths iM_orderMany iM_orderSum iM_leastOrder rM_often iM_setMany iM_someOf iM_allOf iM_allWeight iM_enoughWeight iM_worthSum iM_firstRest iM_leastDrawn 1 b_iM_taped b_iM_size b_iM_end b_iM_failed b_iM_hasCourt b_iM_undos b_iM_images b_iM_scale b_iM_breaths b_iM_cutMany) (cwV 1 hts (wd_V wd_396 wd_397 wd_398 wd_5 (wd_c wd_399)) rfl rfl rfl dv_yX7_no_1 ⟨Nat.le_of_ble_eq_true rfl, Nat.le_of_ble_eq_true rfl⟩) ⟨Pw.fb, recvX7 hK hP (q0 := 0) rfl, fun U hU hW => Pw.to (hP.ms _ hMs) (hD.ms _ hMs) (hK.ms [false] rfl) hE hS hFc hU hW⟩ rfl rfl hl.1 rfl (lv_room (Nat.le_of_ble_eq_true rfl)) dX7_rests_22 ⟨Nat.le_of_ble_eq_true rfl, Nat.le_of_ble_eq_true rfl⟩) hS (fun q _ h => hFc q h) hFc (fun r u t H locs ht hvm hw hB hz1 hk1 hS => ?_)
    have hru9 := hw.2
    have hw := hw.1
    refine ex_1_1 hB (fun x_3171 e_x_3171_0 hB => ?_)
    obtain ⟨hP, hD⟩ := Bw.goN (ws' := [(oc7 oM x_3162 rM_tape iM_taped iM_size iM_at iM_end iM_token iM_whole iM_nameSize iM_fault iM_place x_3171 rM_letters iM_failed iM_hasCourt rM_r rM_fresh rM_told rM_read rM_st rM_undone rM_kept iM_undos iM_images rM_fresher iM_fresherSize iM_scale iM_night rM_heardRow rM_cutRow iM_breaths iM_cutMany iM_allBreaths rM_trial rM_words iM_fewestBreaths iM_orderMany iM_orderSum iM_leastOrder rM_often iM_setMany iM_someOf iM_allOf iM_allWeight iM_enoughWeight iM_worthSum iM_firstRest iM_leastDrawn), (arI rM_r kM_r 287 fM_r)]) hB rfl ht hP hD _ hMs hk1 hFc rfl
    clear hz1 hk1 hvm ht hB hMs
    rw [← hru9] at e_x_3171_0
    obtain ⟨x_3172, rfl⟩ : ∃ z, z = r := ⟨_, rfl⟩
    have hG := hG.trans (un2_eq e_x_3171_0)
    refine lv_goto (tgt := 33) hx hb dX7_rests_25 (by decide) ?_
    exact wq_i hx hb hr (cI x_3172) ⟨⟨trivial, trivial⟩, (cI_of x_3172)⟩ (fun t ht hW => ⟨x_3162, x_3171, iM_firstRest, (cI_tup hG), Bw.to hP hD hK ht hW⟩) hS dX7_rests_33 hlocks
  · skip
    have hG := hG.trans (lt_eq hru9.symm)
    have hG := hG.trans (if_neg (by decide))
    have hG := hG.trans (if_neg (by decide))
    refine lv_istore_n (lv' := [(2, .int 2), (0, .ref oM), (1, .int p0)]) hx hb dX7_rests_15 rfl hl (by decide) rfl (fun ls hl => ?_)
    refine lv_iload_n hx hb dX7_rests_16 rfl (lv_at hl 0 rfl) ?_
    refine lv_if_eq (tgt := 28) hx hb dX7_rests_17 (by decide) (fun c => absurd c (by decide)) (fun _ => ?_)
    refine lv_aload_n hx hb dX7_rests_20 rfl (lv_at hl 1 rfl) ?_
    refine lv_iload_n hx hb dX7_rests_21 rfl (lv_at hl 0 rfl) ?_
    have hMs := ml_of hD [true, false] (wc := [(oc7 oM x_3162 rM_tape iM_taped iM_size iM_at iM_end iM_token iM_whole iM_nameSize iM_fault iM_place x_3163 rM_letters iM_failed iM_hasCourt rM_r rM_fresh rM_told rM_read rM_st rM_undone rM_kept iM_undos iM_images rM_fresher iM_fresherSize iM_scale iM_night rM_heardRow rM_cutRow iM_breaths iM_cutMany iM_allBreaths rM_trial rM_words iM_fewestBreaths iM_orderMany iM_orderSum iM_leastOrder rM_often iM_setMany iM_someOf iM_allOf iM_allWeight iM_enoughWeight iM_worthSum iM_firstRest iM_leastDrawn)]) rfl
    have hFc := va_freeM hD hS hA _ hMs
    refine va_calli (va_runV (As := [.int 2]) (rest := []) ⟨hx, hb, hml, hown, hts⟩ (tX7_no l dC dI _ oM x_3162 rM_tape iM_taped iM_size iM_at iM_end iM_token iM_whole iM_nameSize iM_fault iM_place x_3163 rM_letters iM_failed iM_hasCourt rM_r rM_fresh rM_told rM_read rM_st rM_undone rM_kept iM_undos iM_images rM_fresher iM_fresherSize iM_scale iM_night rM_heardRow rM_cutRow iM_breaths iM_cutMany iM_allBreaths rM_trial rM_words iM_fewestBreaths iM_orderMany iM_orderSum iM_leastOrder rM_often iM_setMany iM_someOf iM_allOf iM_allWeight iM_enoughWeight iM_worthSum iM_firstRest iM_leastDrawn 2 b_iM_taped b_iM_size b_iM_end b_iM_failed b_iM_hasCourt b_iM_undos b_iM_images b_iM_scale b_iM_breaths b_iM_cutMany) (cwV 1 hts (wd_V wd_396 wd_397 wd_398 wd_5 (wd_c wd_399)) rfl rfl rfl dv_yX7_no_1 ⟨Nat.le_of_ble_eq_true rfl, Nat.le_of_ble_eq_true rfl⟩) ⟨Pw.fb, recvX7 hK hP (q0 := 0) rfl, fun U hU hW => Pw.to (hP.ms _ hMs) (hD.ms _ hMs) (hK.ms [false] rfl) hE hS hFc hU hW⟩ rfl rfl hl.1 rfl (lv_room (Nat.le_of_ble_eq_true rfl)) dX7_rests_22 ⟨Nat.le_of_ble_eq_true rfl, Nat.le_of_ble_eq_true rfl⟩) hS (fun q _ h => hFc q h) hFc (fun r u t H locs ht hvm hw hB hz1 hk1 hS => ?_)
    have hru9 := hw.2
    have hw := hw.1
    refine ex_1_1 hB (fun x_3174 e_x_3174_0 hB => ?_)
    obtain ⟨hP, hD⟩ := Bw.goN (ws' := [(oc7 oM x_3162 rM_tape iM_taped iM_size iM_at iM_end iM_token iM_whole iM_nameSize iM_fault iM_place x_3174 rM_letters iM_failed iM_hasCourt rM_r rM_fresh rM_told rM_read rM_st rM_undone rM_kept iM_undos iM_images rM_fresher iM_fresherSize iM_scale iM_night rM_heardRow rM_cutRow iM_breaths iM_cutMany iM_allBreaths rM_trial rM_words iM_fewestBreaths iM_orderMany iM_orderSum iM_leastOrder rM_often iM_setMany iM_someOf iM_allOf iM_allWeight iM_enoughWeight iM_worthSum iM_firstRest iM_leastDrawn), (arI rM_r kM_r 287 fM_r)]) hB rfl ht hP hD _ hMs hk1 hFc rfl
    clear hz1 hk1 hvm ht hB hMs
    rw [← hru9] at e_x_3174_0
    obtain ⟨x_3175, rfl⟩ : ∃ z, z = r := ⟨_, rfl⟩
    have hG := hG.trans (un2_eq e_x_3174_0)
    refine lv_goto (tgt := 33) hx hb dX7_rests_25 (by decide) ?_
    exact wq_i hx hb hr (cI x_3175) ⟨⟨trivial, trivial⟩, (cI_of x_3175)⟩ (fun t ht hW => ⟨x_3162, x_3174, iM_firstRest, (cI_tup hG), Bw.to hP hD hK ht hW⟩) hS dX7_rests_33 hlocks
set_option maxHeartbeats 4000000 in
set_option maxRecDepth 100000 in
theorem tX7_rest (l : Launch) (dC : Nat → ClassId) (dI : Nat → Nat → Nat) (sz : Nat) (oM : Nat) (iM_thrown : Int32) (rM_tape : Nat) (iM_taped : Int32) (iM_size : Int32) (iM_at : Int32) (iM_end : Int32) (iM_token : Int32) (iM_whole : Int32) (iM_nameSize : Int32) (iM_fault : Int32) (iM_place : Int32) (iM_trouble : Int32) (rM_letters : Nat) (iM_failed : Int32) (iM_hasCourt : Int32) (rM_r : Nat) (fM_r : Nat → Int32) (kM_r : ClassId) (rM_fresh : Nat) (rM_told : Nat) (rM_read : Nat) (rM_st : Nat) (rM_undone : Nat) (rM_kept : Nat) (iM_undos : Int32) (iM_images : Int32) (rM_fresher : Nat) (iM_fresherSize : Int32) (iM_scale : Int32) (iM_night : Int32) (rM_heardRow : Nat) (rM_cutRow : Nat) (iM_breaths : Int32) (iM_cutMany : Int32) (iM_allBreaths : Int32) (rM_trial : Nat) (rM_words : Nat) (iM_fewestBreaths : Int32) (iM_orderMany : Int32) (iM_orderSum : Int32) (iM_leastOrder : Int32) (rM_often : Nat) (iM_setMany : Int32) (iM_someOf : Int32) (iM_allOf : Int32) (iM_allWeight : Int64) (iM_enoughWeight : Int64) (iM_worthSum : Int64) (iM_firstRest : Int32) (iM_leastDrawn : Int32) (p0 : Int32) (b_iM_taped : 0 ≤ iM_taped.toInt ∧ iM_taped.toInt ≤ 900) (b_iM_size : 0 ≤ iM_size.toInt ∧ iM_size.toInt ≤ 900) (b_iM_end : 0 ≤ iM_end.toInt ∧ iM_end.toInt ≤ 900) (b_iM_failed : 0 ≤ iM_failed.toInt ∧ iM_failed.toInt ≤ 1) (b_iM_hasCourt : 0 ≤ iM_hasCourt.toInt ∧ iM_hasCourt.toInt ≤ 1) (b_iM_undos : 0 ≤ iM_undos.toInt ∧ iM_undos.toInt ≤ 16) (b_iM_images : 0 ≤ iM_images.toInt ∧ iM_images.toInt ≤ 3) (b_iM_scale : 1 ≤ iM_scale.toInt ∧ iM_scale.toInt ≤ 1296) (b_iM_breaths : 0 ≤ iM_breaths.toInt ∧ iM_breaths.toInt ≤ 399) (b_iM_cutMany : 0 ≤ iM_cutMany.toInt ∧ iM_cutMany.toInt ≤ 399) (r_R : ROk fM_r) (r_C : iM_hasCourt.toInt ≤ 0 ∨ (1 ≤ (fM_r 1).toInt ∧ 0 ≤ (fM_r 6).toInt ∧ (fM_r 6).toInt < (fM_r 1).toInt))  : Met l yX7_rest (Cond.code yX7_rest cX7_rest 3 (some .int) :: wG) ({ frames := 2, cells := 0, slots := 0, locals := 47 }) (va_Pc [.ref oM, .int p0] (Pw dC dI sz [(oc7 oM iM_thrown rM_tape iM_taped iM_size iM_at iM_end iM_token iM_whole iM_nameSize iM_fault iM_place iM_trouble rM_letters iM_failed iM_hasCourt rM_r rM_fresh rM_told rM_read rM_st rM_undone rM_kept iM_undos iM_images rM_fresher iM_fresherSize iM_scale iM_night rM_heardRow rM_cutRow iM_breaths iM_cutMany iM_allBreaths rM_trial rM_words iM_fewestBreaths iM_orderMany iM_orderSum iM_leastOrder rM_often iM_setMany iM_someOf iM_allOf iM_allWeight iM_enoughWeight iM_worthSum iM_firstRest iM_leastDrawn), (arI rM_r kM_r 287 fM_r)] [(kM_r, .int)])) (va_Qi (fun (r : Int32) (u : Nat) => (True ∧ True) ∧ r = Int32.ofNat u) (fun (u : Nat) (t : State) => ∃ (niM_thrown : Int32) (niM_trouble : Int32) (niM_firstRest : Int32), (PX7_rest iM_hasCourt iM_firstRest p0 = (Int32.ofNat u, niM_thrown, niM_trouble, niM_firstRest)) ∧ Bw dC dI (va_A [(oc7 oM iM_thrown rM_tape iM_taped iM_size iM_at iM_end iM_token iM_whole iM_nameSize iM_fault iM_place iM_trouble rM_letters iM_failed iM_hasCourt rM_r rM_fresh rM_told rM_read rM_st rM_undone rM_kept iM_undos iM_images rM_fresher iM_fresherSize iM_scale iM_night rM_heardRow rM_cutRow iM_breaths iM_cutMany iM_allBreaths rM_trial rM_words iM_fewestBreaths iM_orderMany iM_orderSum iM_leastOrder rM_often iM_setMany iM_someOf iM_allOf iM_allWeight iM_enoughWeight iM_worthSum iM_firstRest iM_leastDrawn), (arI rM_r kM_r 287 fM_r)] sz) [(oc7 oM niM_thrown rM_tape iM_taped iM_size iM_at iM_end iM_token iM_whole iM_nameSize iM_fault iM_place niM_trouble rM_letters iM_failed iM_hasCourt rM_r rM_fresh rM_told rM_read rM_st rM_undone rM_kept iM_undos iM_images rM_fresher iM_fresherSize iM_scale iM_night rM_heardRow rM_cutRow iM_breaths iM_cutMany iM_allBreaths rM_trial rM_words iM_fewestBreaths iM_orderMany iM_orderSum iM_leastOrder rM_often iM_setMany iM_someOf iM_allOf iM_allWeight iM_enoughWeight iM_worthSum niM_firstRest iM_leastDrawn), (arI rM_r kM_r 287 fM_r)] [(kM_r, .int)] t) (va_A [(oc7 oM iM_thrown rM_tape iM_taped iM_size iM_at iM_end iM_token iM_whole iM_nameSize iM_fault iM_place iM_trouble rM_letters iM_failed iM_hasCourt rM_r rM_fresh rM_told rM_read rM_st rM_undone rM_kept iM_undos iM_images rM_fresher iM_fresherSize iM_scale iM_night rM_heardRow rM_cutRow iM_breaths iM_cutMany iM_allBreaths rM_trial rM_words iM_fewestBreaths iM_orderMany iM_orderSum iM_leastOrder rM_often iM_setMany iM_someOf iM_allOf iM_allWeight iM_enoughWeight iM_worthSum iM_firstRest iM_leastDrawn), (arI rM_r kM_r 287 fM_r)] sz)) 0 0 (va_A [(oc7 oM iM_thrown rM_tape iM_taped iM_size iM_at iM_end iM_token iM_whole iM_nameSize iM_fault iM_place iM_trouble rM_letters iM_failed iM_hasCourt rM_r rM_fresh rM_told rM_read rM_st rM_undone rM_kept iM_undos iM_images rM_fresher iM_fresherSize iM_scale iM_night rM_heardRow rM_cutRow iM_breaths iM_cutMany iM_allBreaths rM_trial rM_words iM_fewestBreaths iM_orderMany iM_orderSum iM_leastOrder rM_often iM_setMany iM_someOf iM_allOf iM_allWeight iM_enoughWeight iM_worthSum iM_firstRest iM_leastDrawn), (arI rM_r kM_r 287 fM_r)] sz) := by
  refine Met.ofW (cc := cX7_rest) (maxL := 3) (ret := (some .int)) pnX7 rfl ?_
  intro p e s m args below meth c s₁ B hml hv
  obtain ⟨rfl, hsz, hP, hK, hD0, hE⟩ := hv
  have hx := B.exec
  have hb := B.bytes
  have hr := B.returns
  have hts : ∀ w ∈ wG, w.before ([.ref oM, .int p0] : List Value).toArray s = true := fun w h => atoms_spec (ws := Cond.code yX7_rest cX7_rest 3 (some .int) :: wG) B.pre w (List.mem_cons_of_mem _ h)
  have hown : s.vm.findClass RX7 = some m.cls := own_of B.named rfl
  have hlocks := B.notSynchronized
  subst hsz
  have hD := hD0.self (sz := s.heap.size)
  generalize hAe : va_A [(oc7 oM iM_thrown rM_tape iM_taped iM_size iM_at iM_end iM_token iM_whole iM_nameSize iM_fault iM_place iM_trouble rM_letters iM_failed iM_hasCourt rM_r rM_fresh rM_told rM_read rM_st rM_undone rM_kept iM_undos iM_images rM_fresher iM_fresherSize iM_scale iM_night rM_heardRow rM_cutRow iM_breaths iM_cutMany iM_allBreaths rM_trial rM_words iM_fewestBreaths iM_orderMany iM_orderSum iM_leastOrder rM_often iM_setMany iM_someOf iM_allOf iM_allWeight iM_enoughWeight iM_worthSum iM_firstRest iM_leastDrawn), (arI rM_r kM_r 287 fM_r)] s.heap.size = A at hD hE ⊢
  have hA : ∀ q : Nat, s.heap.size ≤ q → A q := fun q h => by rw [← hAe]; exact Or.inr h
  have hS : va_S A s.heap s.heap [] := va_S.rf
  have hl := lv_entry ([.ref oM, .int p0]) (n := 3) (Nat.le_of_ble_eq_true rfl)
  rw [lg_entry_eq]
  generalize (lg_sl ([.ref oM, .int p0]) ++ List.replicate (3 - (lg_sl ([.ref oM, .int p0])).length) Slot.unset).toArray = ls at hl ⊢
  have hl : lv_has ls 3 [(0, .ref oM), (1, .int p0)] := hl
  have hG := PX7_rest_eq iM_hasCourt iM_firstRest p0
  have s_slips := r_R.slips
  have s_nodes := r_R.nodes
  have s_uns := r_R.uns
  refine lv_aload_n hx hb dX7_rest_0 rfl (lv_at hl 0 rfl) ?_
  have hMs := ml_of hD [true, false] (wc := [(oc7 oM iM_thrown rM_tape iM_taped iM_size iM_at iM_end iM_token iM_whole iM_nameSize iM_fault iM_place iM_trouble rM_letters iM_failed iM_hasCourt rM_r rM_fresh rM_told rM_read rM_st rM_undone rM_kept iM_undos iM_images rM_fresher iM_fresherSize iM_scale iM_night rM_heardRow rM_cutRow iM_breaths iM_cutMany iM_allBreaths rM_trial rM_words iM_fewestBreaths iM_orderMany iM_orderSum iM_leastOrder rM_often iM_setMany iM_someOf iM_allOf iM_allWeight iM_enoughWeight iM_worthSum iM_firstRest iM_leastDrawn)]) rfl
  have hFc := va_freeM hD hS hA _ hMs
  refine va_callv (va_runV (As := []) (rest := []) ⟨hx, hb, hml, hown, hts⟩ (tX7_good l dC dI _ oM iM_thrown rM_tape iM_taped iM_size iM_at iM_end iM_token iM_whole iM_nameSize iM_fault iM_place iM_trouble rM_letters iM_failed iM_hasCourt rM_r rM_fresh rM_told rM_read rM_st rM_undone rM_kept iM_undos iM_images rM_fresher iM_fresherSize iM_scale iM_night rM_heardRow rM_cutRow iM_breaths iM_cutMany iM_allBreaths rM_trial rM_words iM_fewestBreaths iM_orderMany iM_orderSum iM_leastOrder rM_often iM_setMany iM_someOf iM_allOf iM_allWeight iM_enoughWeight iM_worthSum iM_firstRest iM_leastDrawn b_iM_taped b_iM_size b_iM_end b_iM_failed b_iM_hasCourt b_iM_undos b_iM_images b_iM_scale b_iM_breaths b_iM_cutMany) (cwV 0 hts (wd_V wd_388 wd_389 wd_390 wd_5 (wd_c wd_391)) rfl rfl rfl dv_yX7_good_0 ⟨Nat.le_of_ble_eq_true rfl, Nat.le_of_ble_eq_true rfl⟩) ⟨Pw.fb, recvX7 hK hP (q0 := 0) rfl, fun U hU hW => Pw.to (hP.ms _ hMs) (hD.ms _ hMs) (hK.ms [false] rfl) hE hS hFc hU hW⟩ rfl rfl hl.1 rfl (lv_room (Nat.le_of_ble_eq_true rfl)) dX7_rest_1 ⟨Nat.le_of_ble_eq_true rfl, Nat.le_of_ble_eq_true rfl⟩) hS (fun q _ h => hFc q h) hFc (fun u t H locs ht hvm hw hB hz1 hk1 hS => ?_)
  refine ex_2_3 hB (fun x_3189 x_3190 b_x_3189 b_x_3190 e_x_3189_0 hB => ?_)
  obtain ⟨hP, hD⟩ := Bw.goN (ws' := [(oc7 oM x_3189 rM_tape iM_taped iM_size iM_at iM_end iM_token iM_whole iM_nameSize iM_fault iM_place x_3190 rM_letters iM_failed iM_hasCourt rM_r rM_fresh rM_told rM_read rM_st rM_undone rM_kept iM_undos iM_images rM_fresher iM_fresherSize iM_scale iM_night rM_heardRow rM_cutRow iM_breaths iM_cutMany iM_allBreaths rM_trial rM_words iM_fewestBreaths iM_orderMany iM_orderSum iM_leastOrder rM_often iM_setMany iM_someOf iM_allOf iM_allWeight iM_enoughWeight iM_worthSum iM_firstRest iM_leastDrawn), (arI rM_r kM_r 287 fM_r)]) hB rfl ht hP hD _ hMs hk1 hFc rfl
  clear hz1 hk1 hvm ht hB hMs
  have hG := hG.trans (un2_eq e_x_3189_0)
  refine lv_aload_n hx hb dX7_rest_4 rfl (lv_at hl 0 rfl) ?_
  refine lv_iload_n hx hb dX7_rest_5 rfl (lv_at hl 1 rfl) ?_
  refine lv_iconst (v := 0) hx hb dX7_rest_6 (by decide) ?_
  refine lv_bipush (v := 9) hx hb dX7_rest_7 (by decide) ?_
  have hFc : ∀ q, va_A [] _ q → A q := fun q h => hA q (Nat.le_trans hS.1 (va_nilA h))
  refine va_calli (va_runS (As := [.int p0, .int 0, .int 9]) (rest := [.ref oM]) ⟨hx, hb, hml, hown, hts⟩ (tX7_in l dC dI _ p0 0 9 ) (va_cwS 3 hts (wd_S wd_393 wd_394 wd_5 (wd_c wd_395)) rfl rfl rfl ds_yX7_in_3 ⟨Nat.le_of_ble_eq_true rfl, Nat.le_of_ble_eq_true rfl⟩) ⟨Pw.fb, fun U hU hW => Pn.to hK hE hS hA hU hW⟩ rfl rfl hl.1 rfl (lv_room (Nat.le_of_ble_eq_true rfl)) dX7_rest_9 ⟨Nat.le_of_ble_eq_true rfl, Nat.le_of_ble_eq_true rfl⟩) hS (fun q _ h => hFc q h) hFc (fun r u t H locs ht hvm hw hB hz1 hk1 hS => ?_)
  obtain ⟨hP, hD, hK⟩ := Bw.same ht hvm hP hD hK hk1 hFc
  clear hz1 hk1 hvm ht hB
  have hq9 := hw.2
  have hw := hw.1
  obtain ⟨x_3191, rfl⟩ : ∃ z, z = r := ⟨_, rfl⟩
  have hq_x_3191 := hq9
  have hG := hG.trans (lt_eq hq_x_3191.symm)
  have bx_3191 := hw.1
  have dx_3191 := bz_tb bx_3191
  have px_3191 := hw.2
  have hFc := va_freeI hD hS hA
  refine va_calli (va_runV (As := [.int x_3191]) (rest := []) ⟨hx, hb, hml, hown, hts⟩ (tX7_why l dC dI _ oM x_3189 rM_tape iM_taped iM_size iM_at iM_end iM_token iM_whole iM_nameSize iM_fault iM_place x_3190 rM_letters iM_failed iM_hasCourt rM_r fM_r kM_r rM_fresh rM_told rM_read rM_st rM_undone rM_kept iM_undos iM_images rM_fresher iM_fresherSize iM_scale iM_night rM_heardRow rM_cutRow iM_breaths iM_cutMany iM_allBreaths rM_trial rM_words iM_fewestBreaths iM_orderMany iM_orderSum iM_leastOrder rM_often iM_setMany iM_someOf iM_allOf iM_allWeight iM_enoughWeight iM_worthSum iM_firstRest iM_leastDrawn x_3191 b_iM_taped b_iM_size b_iM_end b_iM_failed b_iM_hasCourt b_iM_undos b_iM_images b_iM_scale b_iM_breaths b_iM_cutMany (by assumption) (by assumption) ⟨dx_3191.1, dx_3191.2⟩) (cwV 1 hts (wd_V wd_882 wd_883 wd_884 wd_5 (wd_c wd_885)) rfl rfl rfl dv_yX7_why_1 ⟨Nat.le_of_ble_eq_true rfl, Nat.le_of_ble_eq_true rfl⟩) ⟨Pw.fb, recvX7 hK hP (q0 := 0) rfl, fun U hU hW => Pw.to hP hD hK hE hS hFc hU hW⟩ rfl rfl hl.1 rfl (lv_room (Nat.le_of_ble_eq_true rfl)) dX7_rest_12 ⟨Nat.le_of_ble_eq_true rfl, Nat.le_of_ble_eq_true rfl⟩) hS (fun q _ h => hFc q h) hFc (fun r u t H locs ht hvm hw hB hz1 hk1 hS => ?_)
  have hru9 := hw.2
  have hw := hw.1
  obtain ⟨hP, hD⟩ := Bw.goA (ws' := [(oc7 oM x_3189 rM_tape iM_taped iM_size iM_at iM_end iM_token iM_whole iM_nameSize iM_fault iM_place x_3190 rM_letters iM_failed iM_hasCourt rM_r rM_fresh rM_told rM_read rM_st rM_undone rM_kept iM_undos iM_images rM_fresher iM_fresherSize iM_scale iM_night rM_heardRow rM_cutRow iM_breaths iM_cutMany iM_allBreaths rM_trial rM_words iM_fewestBreaths iM_orderMany iM_orderSum iM_leastOrder rM_often iM_setMany iM_someOf iM_allOf iM_allWeight iM_enoughWeight iM_worthSum iM_firstRest iM_leastDrawn), (arI rM_r kM_r 287 fM_r)]) hB rfl ht hFc rfl
  clear hz1 hk1 hvm ht hB
  rcases hw.2 with ⟨rfl, hc_3192⟩ | ⟨rfl, hc_3192⟩ | ⟨rfl, hc_3192⟩
  · skip
    have hG := hG.trans (lt_eq hru9.symm)
    have hG := hG.trans (if_pos rfl)
    refine lv_istore_n (lv' := [(2, .int 0), (0, .ref oM), (1, .int p0)]) hx hb dX7_rest_15 rfl hl (by decide) rfl (fun ls hl => ?_)
    refine lv_iload_n hx hb dX7_rest_16 rfl (lv_at hl 0 rfl) ?_
    refine lv_if_eq (tgt := 26) hx hb dX7_rest_17 (by decide) (fun _ => ?_) (fun c => absurd c (by decide))
    refine lv_aload_n hx hb dX7_rest_26 rfl (lv_at hl 1 rfl) ?_
    refine lv_iload_n hx hb dX7_rest_27 rfl (lv_at hl 2 rfl) ?_
    have hMs := ml_of hD [true, false] (wc := [(oc7 oM x_3189 rM_tape iM_taped iM_size iM_at iM_end iM_token iM_whole iM_nameSize iM_fault iM_place x_3190 rM_letters iM_failed iM_hasCourt rM_r rM_fresh rM_told rM_read rM_st rM_undone rM_kept iM_undos iM_images rM_fresher iM_fresherSize iM_scale iM_night rM_heardRow rM_cutRow iM_breaths iM_cutMany iM_allBreaths rM_trial rM_words iM_fewestBreaths iM_orderMany iM_orderSum iM_leastOrder rM_often iM_setMany iM_someOf iM_allOf iM_allWeight iM_enoughWeight iM_worthSum iM_firstRest iM_leastDrawn)]) rfl
    have hFc := va_freeM hD hS hA _ hMs
    refine va_calli (va_runV (As := [.int p0]) (rest := []) ⟨hx, hb, hml, hown, hts⟩ (tX7_seekRests l dC dI _ oM x_3189 rM_tape iM_taped iM_size iM_at iM_end iM_token iM_whole iM_nameSize iM_fault iM_place x_3190 rM_letters iM_failed iM_hasCourt rM_r rM_fresh rM_told rM_read rM_st rM_undone rM_kept iM_undos iM_images rM_fresher iM_fresherSize iM_scale iM_night rM_heardRow rM_cutRow iM_breaths iM_cutMany iM_allBreaths rM_trial rM_words iM_fewestBreaths iM_orderMany iM_orderSum iM_leastOrder rM_often iM_setMany iM_someOf iM_allOf iM_allWeight iM_enoughWeight iM_worthSum iM_firstRest iM_leastDrawn p0 b_iM_taped b_iM_size b_iM_end b_iM_failed b_iM_hasCourt b_iM_undos b_iM_images b_iM_scale b_iM_breaths b_iM_cutMany) (cwV 1 hts (wd_V wd_1311 wd_1312 wd_1313 wd_5 (wd_c wd_1314)) rfl rfl rfl dv_yX7_seekRests_1 ⟨Nat.le_of_ble_eq_true rfl, Nat.le_of_ble_eq_true rfl⟩) ⟨Pw.fb, recvX7 hK hP (q0 := 0) rfl, fun U hU hW => Pw.to (hP.ms _ hMs) (hD.ms _ hMs) (hK.ms [false] rfl) hE hS hFc hU hW⟩ rfl rfl hl.1 rfl (lv_room (Nat.le_of_ble_eq_true rfl)) dX7_rest_28 ⟨Nat.le_of_ble_eq_true rfl, Nat.le_of_ble_eq_true rfl⟩) hS (fun q _ h => hFc q h) hFc (fun r u t H locs ht hvm hw hB hz1 hk1 hS => ?_)
    have hru9 := hw.2
    have hw := hw.1
    refine ex_1_1 hB (fun x_3195 e_x_3195_0 hB => ?_)
    obtain ⟨hP, hD⟩ := Bw.goN (ws' := [(oc7 oM x_3189 rM_tape iM_taped iM_size iM_at iM_end iM_token iM_whole iM_nameSize iM_fault iM_place x_3190 rM_letters iM_failed iM_hasCourt rM_r rM_fresh rM_told rM_read rM_st rM_undone rM_kept iM_undos iM_images rM_fresher iM_fresherSize iM_scale iM_night rM_heardRow rM_cutRow iM_breaths iM_cutMany iM_allBreaths rM_trial rM_words iM_fewestBreaths iM_orderMany iM_orderSum iM_leastOrder rM_often iM_setMany iM_someOf iM_allOf iM_allWeight iM_enoughWeight iM_worthSum x_3195 iM_leastDrawn), (arI rM_r kM_r 287 fM_r)]) hB rfl ht hP hD _ hMs hk1 hFc rfl
    clear hz1 hk1 hvm ht hB hMs
    rw [← hru9] at e_x_3195_0
    obtain ⟨x_3196, rfl⟩ : ∃ z, z = r := ⟨_, rfl⟩
    have hG := hG.trans (un2_eq e_x_3195_0)
    refine lv_pop hx hb dX7_rest_31 rfl ?_
    refine lv_aload_n hx hb dX7_rest_32 rfl (lv_at hl 1 rfl) ?_
    refine va_get (D := (dC, dI)) (ci := 7) (v := .int x_3195) (C := RX7) (T := TX7) (N := 48) hx hb hts inX7 hown hK hP 0 rfl rfl 46 (by decide) (hts _ wd_1315) (fun _ h9 => h9) rfl dX7_rest_33 ?_
    exact wq_i hx hb hr (cI x_3195) ⟨⟨trivial, trivial⟩, (cI_of x_3195)⟩ (fun t ht hW => ⟨x_3189, x_3190, x_3195, (cI_tup hG), Bw.to hP hD hK ht hW⟩) hS dX7_rest_36 hlocks
  · skip
    have hG := hG.trans (lt_eq hru9.symm)
    have hG := hG.trans (if_neg (by decide))
    have hG := hG.trans (if_pos rfl)
    refine lv_istore_n (lv' := [(2, .int 1), (0, .ref oM), (1, .int p0)]) hx hb dX7_rest_15 rfl hl (by decide) rfl (fun ls hl => ?_)
    refine lv_iload_n hx hb dX7_rest_16 rfl (lv_at hl 0 rfl) ?_
    refine lv_if_eq (tgt := 26) hx hb dX7_rest_17 (by decide) (fun c => absurd c (by decide)) (fun _ => ?_)
    refine lv_aload_n hx hb dX7_rest_20 rfl (lv_at hl 1 rfl) ?_
    refine lv_iload_n hx hb dX7_rest_21 rfl (lv_at hl 0 rfl) ?_
    have hMs := ml_of hD [true, false] (wc := [(oc7 oM x_3189 rM_tape iM_taped iM_size iM_at iM_end iM_token iM_whole iM_nameSize iM_fault iM_place x_3190 rM_letters iM_failed iM_hasCourt rM_r rM_fresh rM_told rM_read rM_st rM_undone rM_kept iM_undos iM_images rM_fresher iM_fresherSize iM_scale iM_night rM_heardRow rM_cutRow iM_breaths iM_cutMany iM_allBreaths rM_trial rM_words iM_fewestBreaths iM_orderMany iM_orderSum iM_leastOrder rM_often iM_setMany iM_someOf iM_allOf iM_allWeight iM_enoughWeight iM_worthSum iM_firstRest iM_leastDrawn)]) rfl
    have hFc := va_freeM hD hS hA _ hMs
    refine va_calli (va_runV (As := [.int 1]) (rest := []) ⟨hx, hb, hml, hown, hts⟩ (tX7_no l dC dI _ oM x_3189 rM_tape iM_taped iM_size iM_at iM_end iM_token iM_whole iM_nameSize iM_fault iM_place x_3190 rM_letters iM_failed iM_hasCourt rM_r rM_fresh rM_told rM_read rM_st rM_undone rM_kept iM_undos iM_images rM_fresher iM_fresherSize iM_scale iM_night rM_heardRow rM_cutRow iM_breaths iM_cutMany iM_allBreaths rM_trial rM_words iM_fewestBreaths iM_orderMany iM_orderSum iM_leastOrder rM_often iM_setMany iM_someOf iM_allOf iM_allWeight iM_enoughWeight iM_worthSum iM_firstRest iM_leastDrawn 1 b_iM_taped b_iM_size b_iM_end b_iM_failed b_iM_hasCourt b_iM_undos b_iM_images b_iM_scale b_iM_breaths b_iM_cutMany) (cwV 1 hts (wd_V wd_396 wd_397 wd_398 wd_5 (wd_c wd_399)) rfl rfl rfl dv_yX7_no_1 ⟨Nat.le_of_ble_eq_true rfl, Nat.le_of_ble_eq_true rfl⟩) ⟨Pw.fb, recvX7 hK hP (q0 := 0) rfl, fun U hU hW => Pw.to (hP.ms _ hMs) (hD.ms _ hMs) (hK.ms [false] rfl) hE hS hFc hU hW⟩ rfl rfl hl.1 rfl (lv_room (Nat.le_of_ble_eq_true rfl)) dX7_rest_22 ⟨Nat.le_of_ble_eq_true rfl, Nat.le_of_ble_eq_true rfl⟩) hS (fun q _ h => hFc q h) hFc (fun r u t H locs ht hvm hw hB hz1 hk1 hS => ?_)
    have hru9 := hw.2
    have hw := hw.1
    refine ex_1_1 hB (fun x_3198 e_x_3198_0 hB => ?_)
    obtain ⟨hP, hD⟩ := Bw.goN (ws' := [(oc7 oM x_3189 rM_tape iM_taped iM_size iM_at iM_end iM_token iM_whole iM_nameSize iM_fault iM_place x_3198 rM_letters iM_failed iM_hasCourt rM_r rM_fresh rM_told rM_read rM_st rM_undone rM_kept iM_undos iM_images rM_fresher iM_fresherSize iM_scale iM_night rM_heardRow rM_cutRow iM_breaths iM_cutMany iM_allBreaths rM_trial rM_words iM_fewestBreaths iM_orderMany iM_orderSum iM_leastOrder rM_often iM_setMany iM_someOf iM_allOf iM_allWeight iM_enoughWeight iM_worthSum iM_firstRest iM_leastDrawn), (arI rM_r kM_r 287 fM_r)]) hB rfl ht hP hD _ hMs hk1 hFc rfl
    clear hz1 hk1 hvm ht hB hMs
    rw [← hru9] at e_x_3198_0
    obtain ⟨x_3199, rfl⟩ : ∃ z, z = r := ⟨_, rfl⟩
    have hG := hG.trans (un2_eq e_x_3198_0)
    exact wq_i hx hb hr (cI x_3199) ⟨⟨trivial, trivial⟩, (cI_of x_3199)⟩ (fun t ht hW => ⟨x_3189, x_3198, iM_firstRest, (cI_tup hG), Bw.to hP hD hK ht hW⟩) hS dX7_rest_25 hlocks
  · skip
    have hG := hG.trans (lt_eq hru9.symm)
    have hG := hG.trans (if_neg (by decide))
    have hG := hG.trans (if_neg (by decide))
    refine lv_istore_n (lv' := [(2, .int 2), (0, .ref oM), (1, .int p0)]) hx hb dX7_rest_15 rfl hl (by decide) rfl (fun ls hl => ?_)
    refine lv_iload_n hx hb dX7_rest_16 rfl (lv_at hl 0 rfl) ?_
    refine lv_if_eq (tgt := 26) hx hb dX7_rest_17 (by decide) (fun c => absurd c (by decide)) (fun _ => ?_)
    refine lv_aload_n hx hb dX7_rest_20 rfl (lv_at hl 1 rfl) ?_
    refine lv_iload_n hx hb dX7_rest_21 rfl (lv_at hl 0 rfl) ?_
    have hMs := ml_of hD [true, false] (wc := [(oc7 oM x_3189 rM_tape iM_taped iM_size iM_at iM_end iM_token iM_whole iM_nameSize iM_fault iM_place x_3190 rM_letters iM_failed iM_hasCourt rM_r rM_fresh rM_told rM_read rM_st rM_undone rM_kept iM_undos iM_images rM_fresher iM_fresherSize iM_scale iM_night rM_heardRow rM_cutRow iM_breaths iM_cutMany iM_allBreaths rM_trial rM_words iM_fewestBreaths iM_orderMany iM_orderSum iM_leastOrder rM_often iM_setMany iM_someOf iM_allOf iM_allWeight iM_enoughWeight iM_worthSum iM_firstRest iM_leastDrawn)]) rfl
    have hFc := va_freeM hD hS hA _ hMs
    refine va_calli (va_runV (As := [.int 2]) (rest := []) ⟨hx, hb, hml, hown, hts⟩ (tX7_no l dC dI _ oM x_3189 rM_tape iM_taped iM_size iM_at iM_end iM_token iM_whole iM_nameSize iM_fault iM_place x_3190 rM_letters iM_failed iM_hasCourt rM_r rM_fresh rM_told rM_read rM_st rM_undone rM_kept iM_undos iM_images rM_fresher iM_fresherSize iM_scale iM_night rM_heardRow rM_cutRow iM_breaths iM_cutMany iM_allBreaths rM_trial rM_words iM_fewestBreaths iM_orderMany iM_orderSum iM_leastOrder rM_often iM_setMany iM_someOf iM_allOf iM_allWeight iM_enoughWeight iM_worthSum iM_firstRest iM_leastDrawn 2 b_iM_taped b_iM_size b_iM_end b_iM_failed b_iM_hasCourt b_iM_undos b_iM_images b_iM_scale b_iM_breaths b_iM_cutMany) (cwV 1 hts (wd_V wd_396 wd_397 wd_398 wd_5 (wd_c wd_399)) rfl rfl rfl dv_yX7_no_1 ⟨Nat.le_of_ble_eq_true rfl, Nat.le_of_ble_eq_true rfl⟩) ⟨Pw.fb, recvX7 hK hP (q0 := 0) rfl, fun U hU hW => Pw.to (hP.ms _ hMs) (hD.ms _ hMs) (hK.ms [false] rfl) hE hS hFc hU hW⟩ rfl rfl hl.1 rfl (lv_room (Nat.le_of_ble_eq_true rfl)) dX7_rest_22 ⟨Nat.le_of_ble_eq_true rfl, Nat.le_of_ble_eq_true rfl⟩) hS (fun q _ h => hFc q h) hFc (fun r u t H locs ht hvm hw hB hz1 hk1 hS => ?_)
    have hru9 := hw.2
    have hw := hw.1
    refine ex_1_1 hB (fun x_3201 e_x_3201_0 hB => ?_)
    obtain ⟨hP, hD⟩ := Bw.goN (ws' := [(oc7 oM x_3189 rM_tape iM_taped iM_size iM_at iM_end iM_token iM_whole iM_nameSize iM_fault iM_place x_3201 rM_letters iM_failed iM_hasCourt rM_r rM_fresh rM_told rM_read rM_st rM_undone rM_kept iM_undos iM_images rM_fresher iM_fresherSize iM_scale iM_night rM_heardRow rM_cutRow iM_breaths iM_cutMany iM_allBreaths rM_trial rM_words iM_fewestBreaths iM_orderMany iM_orderSum iM_leastOrder rM_often iM_setMany iM_someOf iM_allOf iM_allWeight iM_enoughWeight iM_worthSum iM_firstRest iM_leastDrawn), (arI rM_r kM_r 287 fM_r)]) hB rfl ht hP hD _ hMs hk1 hFc rfl
    clear hz1 hk1 hvm ht hB hMs
    rw [← hru9] at e_x_3201_0
    obtain ⟨x_3202, rfl⟩ : ∃ z, z = r := ⟨_, rfl⟩
    have hG := hG.trans (un2_eq e_x_3201_0)
    exact wq_i hx hb hr (cI x_3202) ⟨⟨trivial, trivial⟩, (cI_of x_3202)⟩ (fun t ht hW => ⟨x_3189, x_3201, iM_firstRest, (cI_tup hG), Bw.to hP hD hK ht hW⟩) hS dX7_rest_25 hlocks
set_option maxHeartbeats 4000000 in
set_option maxRecDepth 100000 in
theorem tX7_fault (l : Launch) (dC : Nat → ClassId) (dI : Nat → Nat → Nat) (sz : Nat) (oM : Nat) (iM_thrown : Int32) (rM_tape : Nat) (iM_taped : Int32) (iM_size : Int32) (iM_at : Int32) (iM_end : Int32) (iM_token : Int32) (iM_whole : Int32) (iM_nameSize : Int32) (iM_fault : Int32) (iM_place : Int32) (iM_trouble : Int32) (rM_letters : Nat) (iM_failed : Int32) (iM_hasCourt : Int32) (rM_r : Nat) (rM_fresh : Nat) (rM_told : Nat) (rM_read : Nat) (rM_st : Nat) (rM_undone : Nat) (rM_kept : Nat) (iM_undos : Int32) (iM_images : Int32) (rM_fresher : Nat) (iM_fresherSize : Int32) (iM_scale : Int32) (iM_night : Int32) (rM_heardRow : Nat) (rM_cutRow : Nat) (iM_breaths : Int32) (iM_cutMany : Int32) (iM_allBreaths : Int32) (rM_trial : Nat) (rM_words : Nat) (iM_fewestBreaths : Int32) (iM_orderMany : Int32) (iM_orderSum : Int32) (iM_leastOrder : Int32) (rM_often : Nat) (iM_setMany : Int32) (iM_someOf : Int32) (iM_allOf : Int32) (iM_allWeight : Int64) (iM_enoughWeight : Int64) (iM_worthSum : Int64) (iM_firstRest : Int32) (iM_leastDrawn : Int32) (b_iM_taped : 0 ≤ iM_taped.toInt ∧ iM_taped.toInt ≤ 900) (b_iM_size : 0 ≤ iM_size.toInt ∧ iM_size.toInt ≤ 900) (b_iM_end : 0 ≤ iM_end.toInt ∧ iM_end.toInt ≤ 900) (b_iM_failed : 0 ≤ iM_failed.toInt ∧ iM_failed.toInt ≤ 1) (b_iM_hasCourt : 0 ≤ iM_hasCourt.toInt ∧ iM_hasCourt.toInt ≤ 1) (b_iM_undos : 0 ≤ iM_undos.toInt ∧ iM_undos.toInt ≤ 16) (b_iM_images : 0 ≤ iM_images.toInt ∧ iM_images.toInt ≤ 3) (b_iM_scale : 1 ≤ iM_scale.toInt ∧ iM_scale.toInt ≤ 1296) (b_iM_breaths : 0 ≤ iM_breaths.toInt ∧ iM_breaths.toInt ≤ 399) (b_iM_cutMany : 0 ≤ iM_cutMany.toInt ∧ iM_cutMany.toInt ≤ 399)  : Met l yX7_fault (Cond.code yX7_fault cX7_fault 1 (some .int) :: wG) ({ frames := 0, cells := 0, slots := 0, locals := 0 }) (va_Pc [.ref oM] (Pw dC dI sz [(oc7 oM iM_thrown rM_tape iM_taped iM_size iM_at iM_end iM_token iM_whole iM_nameSize iM_fault iM_place iM_trouble rM_letters iM_failed iM_hasCourt rM_r rM_fresh rM_told rM_read rM_st rM_undone rM_kept iM_undos iM_images rM_fresher iM_fresherSize iM_scale iM_night rM_heardRow rM_cutRow iM_breaths iM_cutMany iM_allBreaths rM_trial rM_words iM_fewestBreaths iM_orderMany iM_orderSum iM_leastOrder rM_often iM_setMany iM_someOf iM_allOf iM_allWeight iM_enoughWeight iM_worthSum iM_firstRest iM_leastDrawn)] [])) (va_Qi (fun (r : Int32) (u : Nat) => (True ∧ True) ∧ r = Int32.ofNat u) (fun (u : Nat) (t : State) => ∃ (niM_thrown : Int32), (0 ≤ niM_thrown.toInt ∧ niM_thrown.toInt ≤ 0) ∧ (PX7_fault iM_fault = (Int32.ofNat u, niM_thrown)) ∧ Bw dC dI (va_A [(oc7 oM iM_thrown rM_tape iM_taped iM_size iM_at iM_end iM_token iM_whole iM_nameSize iM_fault iM_place iM_trouble rM_letters iM_failed iM_hasCourt rM_r rM_fresh rM_told rM_read rM_st rM_undone rM_kept iM_undos iM_images rM_fresher iM_fresherSize iM_scale iM_night rM_heardRow rM_cutRow iM_breaths iM_cutMany iM_allBreaths rM_trial rM_words iM_fewestBreaths iM_orderMany iM_orderSum iM_leastOrder rM_often iM_setMany iM_someOf iM_allOf iM_allWeight iM_enoughWeight iM_worthSum iM_firstRest iM_leastDrawn)] sz) [(oc7 oM niM_thrown rM_tape iM_taped iM_size iM_at iM_end iM_token iM_whole iM_nameSize iM_fault iM_place iM_trouble rM_letters iM_failed iM_hasCourt rM_r rM_fresh rM_told rM_read rM_st rM_undone rM_kept iM_undos iM_images rM_fresher iM_fresherSize iM_scale iM_night rM_heardRow rM_cutRow iM_breaths iM_cutMany iM_allBreaths rM_trial rM_words iM_fewestBreaths iM_orderMany iM_orderSum iM_leastOrder rM_often iM_setMany iM_someOf iM_allOf iM_allWeight iM_enoughWeight iM_worthSum iM_firstRest iM_leastDrawn)] [] t) (va_A [(oc7 oM iM_thrown rM_tape iM_taped iM_size iM_at iM_end iM_token iM_whole iM_nameSize iM_fault iM_place iM_trouble rM_letters iM_failed iM_hasCourt rM_r rM_fresh rM_told rM_read rM_st rM_undone rM_kept iM_undos iM_images rM_fresher iM_fresherSize iM_scale iM_night rM_heardRow rM_cutRow iM_breaths iM_cutMany iM_allBreaths rM_trial rM_words iM_fewestBreaths iM_orderMany iM_orderSum iM_leastOrder rM_often iM_setMany iM_someOf iM_allOf iM_allWeight iM_enoughWeight iM_worthSum iM_firstRest iM_leastDrawn)] sz)) 0 0 (va_A [(oc7 oM iM_thrown rM_tape iM_taped iM_size iM_at iM_end iM_token iM_whole iM_nameSize iM_fault iM_place iM_trouble rM_letters iM_failed iM_hasCourt rM_r rM_fresh rM_told rM_read rM_st rM_undone rM_kept iM_undos iM_images rM_fresher iM_fresherSize iM_scale iM_night rM_heardRow rM_cutRow iM_breaths iM_cutMany iM_allBreaths rM_trial rM_words iM_fewestBreaths iM_orderMany iM_orderSum iM_leastOrder rM_often iM_setMany iM_someOf iM_allOf iM_allWeight iM_enoughWeight iM_worthSum iM_firstRest iM_leastDrawn)] sz) := by
  refine Met.ofW (cc := cX7_fault) (maxL := 1) (ret := (some .int)) pnX7 rfl ?_
  intro p e s m args below meth c s₁ B hml hv
  obtain ⟨rfl, hsz, hP, hK, hD0, hE⟩ := hv
  have hx := B.exec
  have hb := B.bytes
  have hr := B.returns
  have hts : ∀ w ∈ wG, w.before ([.ref oM] : List Value).toArray s = true := fun w h => atoms_spec (ws := Cond.code yX7_fault cX7_fault 1 (some .int) :: wG) B.pre w (List.mem_cons_of_mem _ h)
  have hown : s.vm.findClass RX7 = some m.cls := own_of B.named rfl
  have hlocks := B.notSynchronized
  subst hsz
  have hD := hD0.self (sz := s.heap.size)
  generalize hAe : va_A [(oc7 oM iM_thrown rM_tape iM_taped iM_size iM_at iM_end iM_token iM_whole iM_nameSize iM_fault iM_place iM_trouble rM_letters iM_failed iM_hasCourt rM_r rM_fresh rM_told rM_read rM_st rM_undone rM_kept iM_undos iM_images rM_fresher iM_fresherSize iM_scale iM_night rM_heardRow rM_cutRow iM_breaths iM_cutMany iM_allBreaths rM_trial rM_words iM_fewestBreaths iM_orderMany iM_orderSum iM_leastOrder rM_often iM_setMany iM_someOf iM_allOf iM_allWeight iM_enoughWeight iM_worthSum iM_firstRest iM_leastDrawn)] s.heap.size = A at hD hE ⊢
  have hA : ∀ q : Nat, s.heap.size ≤ q → A q := fun q h => by rw [← hAe]; exact Or.inr h
  have hS : va_S A s.heap s.heap [] := va_S.rf
  have hl := lv_entry ([.ref oM]) (n := 1) (Nat.le_of_ble_eq_true rfl)
  rw [lg_entry_eq]
  generalize (lg_sl ([.ref oM]) ++ List.replicate (1 - (lg_sl ([.ref oM])).length) Slot.unset).toArray = ls at hl ⊢
  have hl : lv_has ls 1 [(0, .ref oM)] := hl
  have hG := PX7_fault_eq iM_fault
  refine lv_aload_n hx hb dX7_fault_0 rfl (lv_at hl 0 rfl) ?_
  refine lv_iconst (v := 0) hx hb dX7_fault_1 (by decide) ?_
  refine va_put (D := (dC, dI)) (ci := 7) (v := .int 0) (ty := .int) (C := RX7) (T := TX7) (N := 48) hx hb hts inX7 tyX7 tyX7_ok nmX7 hown hK hP hD hS 0 rfl rfl 0 (by decide) (hts _ wd_184) (fun _ h9 => h9) rfl (by decide +kernel) rfl rfl (Nat.le_of_ble_eq_true rfl) dX7_fault_2 (fun H locs hP hD hS => ?_)
  obtain ⟨hP, hD⟩ := wl2 (ws' := [(oc7 oM 0 rM_tape iM_taped iM_size iM_at iM_end iM_token iM_whole iM_nameSize iM_fault iM_place iM_trouble rM_letters iM_failed iM_hasCourt rM_r rM_fresh rM_told rM_read rM_st rM_undone rM_kept iM_undos iM_images rM_fresher iM_fresherSize iM_scale iM_night rM_heardRow rM_cutRow iM_breaths iM_cutMany iM_allBreaths rM_trial rM_words iM_fewestBreaths iM_orderMany iM_orderSum iM_leastOrder rM_often iM_setMany iM_someOf iM_allOf iM_allWeight iM_enoughWeight iM_worthSum iM_firstRest iM_leastDrawn)]) hP hD rfl
  refine lv_aload_n hx hb dX7_fault_5 rfl (lv_at hl 0 rfl) ?_
  refine va_get (D := (dC, dI)) (ci := 7) (v := .int iM_fault) (C := RX7) (T := TX7) (N := 48) hx hb hts inX7 hown hK hP 0 rfl rfl 9 (by decide) (hts _ wd_379) (fun _ h9 => h9) rfl dX7_fault_6 ?_
  exact wq_i hx hb hr (cI iM_fault) ⟨⟨trivial, trivial⟩, (cI_of iM_fault)⟩ (fun t ht hW => ⟨0, (by decide), (cI_tup hG), Bw.to hP hD hK ht hW⟩) hS dX7_fault_9 hlocks
set_option maxHeartbeats 4000000 in
set_option maxRecDepth 100000 in
theorem tX7_where (l : Launch) (dC : Nat → ClassId) (dI : Nat → Nat → Nat) (sz : Nat) (oM : Nat) (iM_thrown : Int32) (rM_tape : Nat) (iM_taped : Int32) (iM_size : Int32) (iM_at : Int32) (iM_end : Int32) (iM_token : Int32) (iM_whole : Int32) (iM_nameSize : Int32) (iM_fault : Int32) (iM_place : Int32) (iM_trouble : Int32) (rM_letters : Nat) (iM_failed : Int32) (iM_hasCourt : Int32) (rM_r : Nat) (rM_fresh : Nat) (rM_told : Nat) (rM_read : Nat) (rM_st : Nat) (rM_undone : Nat) (rM_kept : Nat) (iM_undos : Int32) (iM_images : Int32) (rM_fresher : Nat) (iM_fresherSize : Int32) (iM_scale : Int32) (iM_night : Int32) (rM_heardRow : Nat) (rM_cutRow : Nat) (iM_breaths : Int32) (iM_cutMany : Int32) (iM_allBreaths : Int32) (rM_trial : Nat) (rM_words : Nat) (iM_fewestBreaths : Int32) (iM_orderMany : Int32) (iM_orderSum : Int32) (iM_leastOrder : Int32) (rM_often : Nat) (iM_setMany : Int32) (iM_someOf : Int32) (iM_allOf : Int32) (iM_allWeight : Int64) (iM_enoughWeight : Int64) (iM_worthSum : Int64) (iM_firstRest : Int32) (iM_leastDrawn : Int32) (b_iM_taped : 0 ≤ iM_taped.toInt ∧ iM_taped.toInt ≤ 900) (b_iM_size : 0 ≤ iM_size.toInt ∧ iM_size.toInt ≤ 900) (b_iM_end : 0 ≤ iM_end.toInt ∧ iM_end.toInt ≤ 900) (b_iM_failed : 0 ≤ iM_failed.toInt ∧ iM_failed.toInt ≤ 1) (b_iM_hasCourt : 0 ≤ iM_hasCourt.toInt ∧ iM_hasCourt.toInt ≤ 1) (b_iM_undos : 0 ≤ iM_undos.toInt ∧ iM_undos.toInt ≤ 16) (b_iM_images : 0 ≤ iM_images.toInt ∧ iM_images.toInt ≤ 3) (b_iM_scale : 1 ≤ iM_scale.toInt ∧ iM_scale.toInt ≤ 1296) (b_iM_breaths : 0 ≤ iM_breaths.toInt ∧ iM_breaths.toInt ≤ 399) (b_iM_cutMany : 0 ≤ iM_cutMany.toInt ∧ iM_cutMany.toInt ≤ 399)  : Met l yX7_where (Cond.code yX7_where cX7_where 1 (some .int) :: wG) ({ frames := 0, cells := 0, slots := 0, locals := 0 }) (va_Pc [.ref oM] (Pw dC dI sz [(oc7 oM iM_thrown rM_tape iM_taped iM_size iM_at iM_end iM_token iM_whole iM_nameSize iM_fault iM_place iM_trouble rM_letters iM_failed iM_hasCourt rM_r rM_fresh rM_told rM_read rM_st rM_undone rM_kept iM_undos iM_images rM_fresher iM_fresherSize iM_scale iM_night rM_heardRow rM_cutRow iM_breaths iM_cutMany iM_allBreaths rM_trial rM_words iM_fewestBreaths iM_orderMany iM_orderSum iM_leastOrder rM_often iM_setMany iM_someOf iM_allOf iM_allWeight iM_enoughWeight iM_worthSum iM_firstRest iM_leastDrawn)] [])) (va_Qi (fun (r : Int32) (u : Nat) => (True ∧ True) ∧ r = Int32.ofNat u) (fun (u : Nat) (t : State) => ∃ (niM_thrown : Int32), (0 ≤ niM_thrown.toInt ∧ niM_thrown.toInt ≤ 0) ∧ (PX7_where iM_place iM_trouble = (Int32.ofNat u, niM_thrown)) ∧ Bw dC dI (va_A [(oc7 oM iM_thrown rM_tape iM_taped iM_size iM_at iM_end iM_token iM_whole iM_nameSize iM_fault iM_place iM_trouble rM_letters iM_failed iM_hasCourt rM_r rM_fresh rM_told rM_read rM_st rM_undone rM_kept iM_undos iM_images rM_fresher iM_fresherSize iM_scale iM_night rM_heardRow rM_cutRow iM_breaths iM_cutMany iM_allBreaths rM_trial rM_words iM_fewestBreaths iM_orderMany iM_orderSum iM_leastOrder rM_often iM_setMany iM_someOf iM_allOf iM_allWeight iM_enoughWeight iM_worthSum iM_firstRest iM_leastDrawn)] sz) [(oc7 oM niM_thrown rM_tape iM_taped iM_size iM_at iM_end iM_token iM_whole iM_nameSize iM_fault iM_place iM_trouble rM_letters iM_failed iM_hasCourt rM_r rM_fresh rM_told rM_read rM_st rM_undone rM_kept iM_undos iM_images rM_fresher iM_fresherSize iM_scale iM_night rM_heardRow rM_cutRow iM_breaths iM_cutMany iM_allBreaths rM_trial rM_words iM_fewestBreaths iM_orderMany iM_orderSum iM_leastOrder rM_often iM_setMany iM_someOf iM_allOf iM_allWeight iM_enoughWeight iM_worthSum iM_firstRest iM_leastDrawn)] [] t) (va_A [(oc7 oM iM_thrown rM_tape iM_taped iM_size iM_at iM_end iM_token iM_whole iM_nameSize iM_fault iM_place iM_trouble rM_letters iM_failed iM_hasCourt rM_r rM_fresh rM_told rM_read rM_st rM_undone rM_kept iM_undos iM_images rM_fresher iM_fresherSize iM_scale iM_night rM_heardRow rM_cutRow iM_breaths iM_cutMany iM_allBreaths rM_trial rM_words iM_fewestBreaths iM_orderMany iM_orderSum iM_leastOrder rM_often iM_setMany iM_someOf iM_allOf iM_allWeight iM_enoughWeight iM_worthSum iM_firstRest iM_leastDrawn)] sz)) 0 0 (va_A [(oc7 oM iM_thrown rM_tape iM_taped iM_size iM_at iM_end iM_token iM_whole iM_nameSize iM_fault iM_place iM_trouble rM_letters iM_failed iM_hasCourt rM_r rM_fresh rM_told rM_read rM_st rM_undone rM_kept iM_undos iM_images rM_fresher iM_fresherSize iM_scale iM_night rM_heardRow rM_cutRow iM_breaths iM_cutMany iM_allBreaths rM_trial rM_words iM_fewestBreaths iM_orderMany iM_orderSum iM_leastOrder rM_often iM_setMany iM_someOf iM_allOf iM_allWeight iM_enoughWeight iM_worthSum iM_firstRest iM_leastDrawn)] sz) := by
  refine Met.ofW (cc := cX7_where) (maxL := 1) (ret := (some .int)) pnX7 rfl ?_
  intro p e s m args below meth c s₁ B hml hv
  obtain ⟨rfl, hsz, hP, hK, hD0, hE⟩ := hv
  have hx := B.exec
  have hb := B.bytes
  have hr := B.returns
  have hts : ∀ w ∈ wG, w.before ([.ref oM] : List Value).toArray s = true := fun w h => atoms_spec (ws := Cond.code yX7_where cX7_where 1 (some .int) :: wG) B.pre w (List.mem_cons_of_mem _ h)
  have hown : s.vm.findClass RX7 = some m.cls := own_of B.named rfl
  have hlocks := B.notSynchronized
  subst hsz
  have hD := hD0.self (sz := s.heap.size)
  generalize hAe : va_A [(oc7 oM iM_thrown rM_tape iM_taped iM_size iM_at iM_end iM_token iM_whole iM_nameSize iM_fault iM_place iM_trouble rM_letters iM_failed iM_hasCourt rM_r rM_fresh rM_told rM_read rM_st rM_undone rM_kept iM_undos iM_images rM_fresher iM_fresherSize iM_scale iM_night rM_heardRow rM_cutRow iM_breaths iM_cutMany iM_allBreaths rM_trial rM_words iM_fewestBreaths iM_orderMany iM_orderSum iM_leastOrder rM_often iM_setMany iM_someOf iM_allOf iM_allWeight iM_enoughWeight iM_worthSum iM_firstRest iM_leastDrawn)] s.heap.size = A at hD hE ⊢
  have hA : ∀ q : Nat, s.heap.size ≤ q → A q := fun q h => by rw [← hAe]; exact Or.inr h
  have hS : va_S A s.heap s.heap [] := va_S.rf
  have hl := lv_entry ([.ref oM]) (n := 1) (Nat.le_of_ble_eq_true rfl)
  rw [lg_entry_eq]
  generalize (lg_sl ([.ref oM]) ++ List.replicate (1 - (lg_sl ([.ref oM])).length) Slot.unset).toArray = ls at hl ⊢
  have hl : lv_has ls 1 [(0, .ref oM)] := hl
  have hG := PX7_where_eq iM_place iM_trouble
  refine lv_aload_n hx hb dX7_where_0 rfl (lv_at hl 0 rfl) ?_
  refine lv_iconst (v := 0) hx hb dX7_where_1 (by decide) ?_
  refine va_put (D := (dC, dI)) (ci := 7) (v := .int 0) (ty := .int) (C := RX7) (T := TX7) (N := 48) hx hb hts inX7 tyX7 tyX7_ok nmX7 hown hK hP hD hS 0 rfl rfl 0 (by decide) (hts _ wd_184) (fun _ h9 => h9) rfl (by decide +kernel) rfl rfl (Nat.le_of_ble_eq_true rfl) dX7_where_2 (fun H locs hP hD hS => ?_)
  obtain ⟨hP, hD⟩ := wl2 (ws' := [(oc7 oM 0 rM_tape iM_taped iM_size iM_at iM_end iM_token iM_whole iM_nameSize iM_fault iM_place iM_trouble rM_letters iM_failed iM_hasCourt rM_r rM_fresh rM_told rM_read rM_st rM_undone rM_kept iM_undos iM_images rM_fresher iM_fresherSize iM_scale iM_night rM_heardRow rM_cutRow iM_breaths iM_cutMany iM_allBreaths rM_trial rM_words iM_fewestBreaths iM_orderMany iM_orderSum iM_leastOrder rM_often iM_setMany iM_someOf iM_allOf iM_allWeight iM_enoughWeight iM_worthSum iM_firstRest iM_leastDrawn)]) hP hD rfl
  refine lv_aload_n hx hb dX7_where_5 rfl (lv_at hl 0 rfl) ?_
  refine va_get (D := (dC, dI)) (ci := 7) (v := .int iM_trouble) (C := RX7) (T := TX7) (N := 48) hx hb hts inX7 hown hK hP 0 rfl rfl 11 (by decide) (hts _ wd_392) (fun _ h9 => h9) rfl dX7_where_6 ?_
  refine lv_iconst (v := 4) hx hb dX7_where_9 (by decide) ?_
  refine lv_icmp_ne (tgt := 20) hx hb dX7_where_10 (by decide) (fun c_3204 => ?_) (fun c_3204 => ?_)
  · skip
    have hG := hG.trans (if_neg c_3204)
    have gc_3204 := ti_ne c_3204 rfl kc_4
    refine lv_iconst (v := (-1)) hx hb dX7_where_20 (by decide) ?_
    exact wq_i hx hb hr (cI (-1)) ⟨⟨trivial, trivial⟩, (cI_of (-1))⟩ (fun t ht hW => ⟨0, (by decide), (cI_tup hG), Bw.to hP hD hK ht hW⟩) hS dX7_where_21 hlocks
  · skip
    have hG := hG.trans (if_pos c_3204)
    have gc_3204 := ti_eq c_3204 rfl kc_4
    refine lv_aload_n hx hb dX7_where_13 rfl (lv_at hl 0 rfl) ?_
    refine va_get (D := (dC, dI)) (ci := 7) (v := .int iM_place) (C := RX7) (T := TX7) (N := 48) hx hb hts inX7 hown hK hP 0 rfl rfl 10 (by decide) (hts _ wd_153) (fun _ h9 => h9) rfl dX7_where_14 ?_
    refine lv_goto (tgt := 21) hx hb dX7_where_17 (by decide) ?_
    exact wq_i hx hb hr (cI iM_place) ⟨⟨trivial, trivial⟩, (cI_of iM_place)⟩ (fun t ht hW => ⟨0, (by decide), (cI_tup hG), Bw.to hP hD hK ht hW⟩) hS dX7_where_21 hlocks
set_option maxHeartbeats 4000000 in
set_option maxRecDepth 100000 in
theorem tX7_size (l : Launch) (dC : Nat → ClassId) (dI : Nat → Nat → Nat) (sz : Nat) (oM : Nat) (iM_thrown : Int32) (rM_tape : Nat) (iM_taped : Int32) (iM_size : Int32) (iM_at : Int32) (iM_end : Int32) (iM_token : Int32) (iM_whole : Int32) (iM_nameSize : Int32) (iM_fault : Int32) (iM_place : Int32) (iM_trouble : Int32) (rM_letters : Nat) (iM_failed : Int32) (iM_hasCourt : Int32) (rM_r : Nat) (fM_r : Nat → Int32) (kM_r : ClassId) (rM_fresh : Nat) (rM_told : Nat) (rM_read : Nat) (rM_st : Nat) (rM_undone : Nat) (rM_kept : Nat) (iM_undos : Int32) (iM_images : Int32) (rM_fresher : Nat) (iM_fresherSize : Int32) (iM_scale : Int32) (iM_night : Int32) (rM_heardRow : Nat) (rM_cutRow : Nat) (iM_breaths : Int32) (iM_cutMany : Int32) (iM_allBreaths : Int32) (rM_trial : Nat) (rM_words : Nat) (iM_fewestBreaths : Int32) (iM_orderMany : Int32) (iM_orderSum : Int32) (iM_leastOrder : Int32) (rM_often : Nat) (iM_setMany : Int32) (iM_someOf : Int32) (iM_allOf : Int32) (iM_allWeight : Int64) (iM_enoughWeight : Int64) (iM_worthSum : Int64) (iM_firstRest : Int32) (iM_leastDrawn : Int32) (p0 : Int32) (b_iM_taped : 0 ≤ iM_taped.toInt ∧ iM_taped.toInt ≤ 900) (b_iM_size : 0 ≤ iM_size.toInt ∧ iM_size.toInt ≤ 900) (b_iM_end : 0 ≤ iM_end.toInt ∧ iM_end.toInt ≤ 900) (b_iM_failed : 0 ≤ iM_failed.toInt ∧ iM_failed.toInt ≤ 1) (b_iM_hasCourt : 0 ≤ iM_hasCourt.toInt ∧ iM_hasCourt.toInt ≤ 1) (b_iM_undos : 0 ≤ iM_undos.toInt ∧ iM_undos.toInt ≤ 16) (b_iM_images : 0 ≤ iM_images.toInt ∧ iM_images.toInt ≤ 3) (b_iM_scale : 1 ≤ iM_scale.toInt ∧ iM_scale.toInt ≤ 1296) (b_iM_breaths : 0 ≤ iM_breaths.toInt ∧ iM_breaths.toInt ≤ 399) (b_iM_cutMany : 0 ≤ iM_cutMany.toInt ∧ iM_cutMany.toInt ≤ 399) (r_R : ROk fM_r) (r_C : iM_hasCourt.toInt ≤ 0 ∨ (1 ≤ (fM_r 1).toInt ∧ 0 ≤ (fM_r 6).toInt ∧ (fM_r 6).toInt < (fM_r 1).toInt))  : Met l yX7_size (Cond.code yX7_size cX7_size 2 (some .int) :: wG) ({ frames := 1, cells := 0, slots := 0, locals := 22 }) (va_Pc [.ref oM, .int p0] (Pw dC dI sz [(oc7 oM iM_thrown rM_tape iM_taped iM_size iM_at iM_end iM_token iM_whole iM_nameSize iM_fault iM_place iM_trouble rM_letters iM_failed iM_hasCourt rM_r rM_fresh rM_told rM_read rM_st rM_undone rM_kept iM_undos iM_images rM_fresher iM_fresherSize iM_scale iM_night rM_heardRow rM_cutRow iM_breaths iM_cutMany iM_allBreaths rM_trial rM_words iM_fewestBreaths iM_orderMany iM_orderSum iM_leastOrder rM_often iM_setMany iM_someOf iM_allOf iM_allWeight iM_enoughWeight iM_worthSum iM_firstRest iM_leastDrawn), (arI rM_r kM_r 287 fM_r)] [(kM_r, .int)])) (va_Qi (fun (r : Int32) (u : Nat) => (True ∧ True) ∧ r = Int32.ofNat u) (fun (u : Nat) (t : State) => ∃ (niM_thrown : Int32), (0 ≤ niM_thrown.toInt ∧ niM_thrown.toInt ≤ 0) ∧ (PX7_size iM_taped iM_hasCourt fM_r iM_undos iM_images p0 = (Int32.ofNat u, niM_thrown)) ∧ Bw dC dI (va_A [(oc7 oM iM_thrown rM_tape iM_taped iM_size iM_at iM_end iM_token iM_whole iM_nameSize iM_fault iM_place iM_trouble rM_letters iM_failed iM_hasCourt rM_r rM_fresh rM_told rM_read rM_st rM_undone rM_kept iM_undos iM_images rM_fresher iM_fresherSize iM_scale iM_night rM_heardRow rM_cutRow iM_breaths iM_cutMany iM_allBreaths rM_trial rM_words iM_fewestBreaths iM_orderMany iM_orderSum iM_leastOrder rM_often iM_setMany iM_someOf iM_allOf iM_allWeight iM_enoughWeight iM_worthSum iM_firstRest iM_leastDrawn), (arI rM_r kM_r 287 fM_r)] sz) [(oc7 oM niM_thrown rM_tape iM_taped iM_size iM_at iM_end iM_token iM_whole iM_nameSize iM_fault iM_place iM_trouble rM_letters iM_failed iM_hasCourt rM_r rM_fresh rM_told rM_read rM_st rM_undone rM_kept iM_undos iM_images rM_fresher iM_fresherSize iM_scale iM_night rM_heardRow rM_cutRow iM_breaths iM_cutMany iM_allBreaths rM_trial rM_words iM_fewestBreaths iM_orderMany iM_orderSum iM_leastOrder rM_often iM_setMany iM_someOf iM_allOf iM_allWeight iM_enoughWeight iM_worthSum iM_firstRest iM_leastDrawn), (arI rM_r kM_r 287 fM_r)] [(kM_r, .int)] t) (va_A [(oc7 oM iM_thrown rM_tape iM_taped iM_size iM_at iM_end iM_token iM_whole iM_nameSize iM_fault iM_place iM_trouble rM_letters iM_failed iM_hasCourt rM_r rM_fresh rM_told rM_read rM_st rM_undone rM_kept iM_undos iM_images rM_fresher iM_fresherSize iM_scale iM_night rM_heardRow rM_cutRow iM_breaths iM_cutMany iM_allBreaths rM_trial rM_words iM_fewestBreaths iM_orderMany iM_orderSum iM_leastOrder rM_often iM_setMany iM_someOf iM_allOf iM_allWeight iM_enoughWeight iM_worthSum iM_firstRest iM_leastDrawn), (arI rM_r kM_r 287 fM_r)] sz)) 0 0 (va_A [(oc7 oM iM_thrown rM_tape iM_taped iM_size iM_at iM_end iM_token iM_whole iM_nameSize iM_fault iM_place iM_trouble rM_letters iM_failed iM_hasCourt rM_r rM_fresh rM_told rM_read rM_st rM_undone rM_kept iM_undos iM_images rM_fresher iM_fresherSize iM_scale iM_night rM_heardRow rM_cutRow iM_breaths iM_cutMany iM_allBreaths rM_trial rM_words iM_fewestBreaths iM_orderMany iM_orderSum iM_leastOrder rM_often iM_setMany iM_someOf iM_allOf iM_allWeight iM_enoughWeight iM_worthSum iM_firstRest iM_leastDrawn), (arI rM_r kM_r 287 fM_r)] sz) := by
  refine Met.ofW (cc := cX7_size) (maxL := 2) (ret := (some .int)) pnX7 rfl ?_
  intro p e s m args below meth c s₁ B hml hv
  obtain ⟨rfl, hsz, hP, hK, hD0, hE⟩ := hv
  have hx := B.exec
  have hb := B.bytes
  have hr := B.returns
  have hts : ∀ w ∈ wG, w.before ([.ref oM, .int p0] : List Value).toArray s = true := fun w h => atoms_spec (ws := Cond.code yX7_size cX7_size 2 (some .int) :: wG) B.pre w (List.mem_cons_of_mem _ h)
  have hown : s.vm.findClass RX7 = some m.cls := own_of B.named rfl
  have hlocks := B.notSynchronized
  subst hsz
  have hD := hD0.self (sz := s.heap.size)
  generalize hAe : va_A [(oc7 oM iM_thrown rM_tape iM_taped iM_size iM_at iM_end iM_token iM_whole iM_nameSize iM_fault iM_place iM_trouble rM_letters iM_failed iM_hasCourt rM_r rM_fresh rM_told rM_read rM_st rM_undone rM_kept iM_undos iM_images rM_fresher iM_fresherSize iM_scale iM_night rM_heardRow rM_cutRow iM_breaths iM_cutMany iM_allBreaths rM_trial rM_words iM_fewestBreaths iM_orderMany iM_orderSum iM_leastOrder rM_often iM_setMany iM_someOf iM_allOf iM_allWeight iM_enoughWeight iM_worthSum iM_firstRest iM_leastDrawn), (arI rM_r kM_r 287 fM_r)] s.heap.size = A at hD hE ⊢
  have hA : ∀ q : Nat, s.heap.size ≤ q → A q := fun q h => by rw [← hAe]; exact Or.inr h
  have hS : va_S A s.heap s.heap [] := va_S.rf
  have hl := lv_entry ([.ref oM, .int p0]) (n := 2) (Nat.le_of_ble_eq_true rfl)
  rw [lg_entry_eq]
  generalize (lg_sl ([.ref oM, .int p0]) ++ List.replicate (2 - (lg_sl ([.ref oM, .int p0])).length) Slot.unset).toArray = ls at hl ⊢
  have hl : lv_has ls 2 [(0, .ref oM), (1, .int p0)] := hl
  have hG := PX7_size_eq iM_taped iM_hasCourt fM_r iM_undos iM_images p0
  have s_slips := r_R.slips
  have s_nodes := r_R.nodes
  have s_uns := r_R.uns
  refine lv_aload_n hx hb dX7_size_0 rfl (lv_at hl 0 rfl) ?_
  refine lv_iconst (v := 0) hx hb dX7_size_1 (by decide) ?_
  refine va_put (D := (dC, dI)) (ci := 7) (v := .int 0) (ty := .int) (C := RX7) (T := TX7) (N := 48) hx hb hts inX7 tyX7 tyX7_ok nmX7 hown hK hP hD hS 0 rfl rfl 0 (by decide) (hts _ wd_184) (fun _ h9 => h9) rfl (by decide +kernel) rfl rfl (Nat.le_of_ble_eq_true rfl) dX7_size_2 (fun H locs hP hD hS => ?_)
  obtain ⟨hP, hD⟩ := wl2 (ws' := [(oc7 oM 0 rM_tape iM_taped iM_size iM_at iM_end iM_token iM_whole iM_nameSize iM_fault iM_place iM_trouble rM_letters iM_failed iM_hasCourt rM_r rM_fresh rM_told rM_read rM_st rM_undone rM_kept iM_undos iM_images rM_fresher iM_fresherSize iM_scale iM_night rM_heardRow rM_cutRow iM_breaths iM_cutMany iM_allBreaths rM_trial rM_words iM_fewestBreaths iM_orderMany iM_orderSum iM_leastOrder rM_often iM_setMany iM_someOf iM_allOf iM_allWeight iM_enoughWeight iM_worthSum iM_firstRest iM_leastDrawn), (arI rM_r kM_r 287 fM_r)]) hP hD rfl
  refine lv_iload_n hx hb dX7_size_5 rfl (lv_at hl 1 rfl) ?_
  refine lv_bipush (v := 7) hx hb dX7_size_6 (by decide) ?_
  refine lv_icmp_ne (tgt := 16) hx hb dX7_size_8 (by decide) (fun c_3223 => ?_) (fun c_3223 => ?_)
  · skip
    have hG := hG.trans (if_neg c_3223)
    have gc_3223 := ti_ne c_3223 rfl kc_7
    refine lv_aload_n hx hb dX7_size_16 rfl (lv_at hl 0 rfl) ?_
    rcases (id r_C) with r_C0 | r_C1
    · skip
      refine va_get (D := (dC, dI)) (ci := 7) (v := .int iM_hasCourt) (C := RX7) (T := TX7) (N := 48) hx hb hts inX7 hown hK hP 0 rfl rfl 14 (by decide) (hts _ wd_385) (fun _ h9 => h9) rfl dX7_size_17 ?_
      refine lv_if_ne (tgt := 39) hx hb dX7_size_20 (by decide) (fun c_3224 => ?_) (fun c_3224 => ?_)
      · skip
        have hG := hG.trans (if_neg c_3224)
        have gc_3224 := ti_ne c_3224 rfl kc_0
        exact (om_c9ba8b89 gc_3224 r_C0 b_iM_hasCourt.1).elim
      · skip
        have hG := hG.trans (if_pos c_3224)
        have gc_3224 := ti_eq c_3224 rfl kc_0
        refine lv_iload_n hx hb dX7_size_23 rfl (lv_at hl 1 rfl) ?_
        refine lv_iconst (v := 0) hx hb dX7_size_24 (by decide) ?_
        refine lv_bipush (v := 6) hx hb dX7_size_25 (by decide) ?_
        have hFc : ∀ q, va_A [] _ q → A q := fun q h => hA q (Nat.le_trans hS.1 (va_nilA h))
        refine va_calli (va_runS (As := [.int p0, .int 0, .int 6]) (rest := []) ⟨hx, hb, hml, hown, hts⟩ (tX7_in l dC dI _ p0 0 6 ) (va_cwS 3 hts (wd_S wd_393 wd_394 wd_5 (wd_c wd_395)) rfl rfl rfl ds_yX7_in_3 ⟨Nat.le_of_ble_eq_true rfl, Nat.le_of_ble_eq_true rfl⟩) ⟨Pw.fb, fun U hU hW => Pn.to hK hE hS hA hU hW⟩ rfl rfl hl.1 rfl (lv_room (Nat.le_of_ble_eq_true rfl)) dX7_size_27 ⟨Nat.le_of_ble_eq_true rfl, Nat.le_of_ble_eq_true rfl⟩) hS (fun q _ h => hFc q h) hFc (fun r u t H locs ht hvm hw hB hz1 hk1 hS => ?_)
        obtain ⟨hP, hD, hK⟩ := Bw.same ht hvm hP hD hK hk1 hFc
        clear hz1 hk1 hvm ht hB
        have hq9 := hw.2
        have hw := hw.1
        obtain ⟨x_3225, rfl⟩ : ∃ z, z = r := ⟨_, rfl⟩
        have hq_x_3225 := hq9
        have hG := hG.trans (lt_eq hq_x_3225.symm)
        have bx_3225 := hw.1
        have dx_3225 := bz_tb bx_3225
        have px_3225 := hw.2
        rcases px_3225 with ⟨gx_3225, hx_3225⟩ | ⟨gx_3225, hx_3225⟩
        · skip
          have l9x_3225 := kc_0
          have m9x_3225 := kc_6
          refine lv_if_eq (tgt := 37) hx hb dX7_size_30 (by decide) (fun c_3226 => ?_) (fun c_3226 => ?_)
          · skip
            have hG := hG.trans (if_pos c_3226)
            have gc_3226 := ti_eq c_3226 rfl kc_0
            exfalso; clear hG; omega
          · skip
            have hG := hG.trans (if_neg c_3226)
            have gc_3226 := ti_ne c_3226 rfl kc_0
            refine lv_iconst (v := 0) hx hb dX7_size_33 (by decide) ?_
            refine lv_goto (tgt := 38) hx hb dX7_size_34 (by decide) ?_
            exact wq_i hx hb hr (cI 0) ⟨⟨trivial, trivial⟩, (cI_of 0)⟩ (fun t ht hW => ⟨0, (by decide), (cI_tup hG), Bw.to hP hD hK ht hW⟩) hS dX7_size_38 hlocks
        · skip
          have l9x_3225 := kc_0
          have m9x_3225 := kc_6
          refine lv_if_eq (tgt := 37) hx hb dX7_size_30 (by decide) (fun c_3227 => ?_) (fun c_3227 => ?_)
          · skip
            have hG := hG.trans (if_pos c_3227)
            have gc_3227 := ti_eq c_3227 rfl kc_0
            refine lv_iconst (v := (-1)) hx hb dX7_size_37 (by decide) ?_
            exact wq_i hx hb hr (cI (-1)) ⟨⟨trivial, trivial⟩, (cI_of (-1))⟩ (fun t ht hW => ⟨0, (by decide), (cI_tup hG), Bw.to hP hD hK ht hW⟩) hS dX7_size_38 hlocks
          · skip
            have hG := hG.trans (if_neg c_3227)
            have gc_3227 := ti_ne c_3227 rfl kc_0
            exfalso; clear hG; omega
    · skip
      refine va_get (D := (dC, dI)) (ci := 7) (v := .int iM_hasCourt) (C := RX7) (T := TX7) (N := 48) hx hb hts inX7 hown hK hP 0 rfl rfl 14 (by decide) (hts _ wd_385) (fun _ h9 => h9) rfl dX7_size_17 ?_
      refine lv_if_ne (tgt := 39) hx hb dX7_size_20 (by decide) (fun c_3228 => ?_) (fun c_3228 => ?_)
      · skip
        have hG := hG.trans (if_neg c_3228)
        have gc_3228 := ti_ne c_3228 rfl kc_0
        refine lv_iload_n hx hb dX7_size_39 rfl (lv_at hl 1 rfl) ?_
        refine lv_iconst (v := 0) hx hb dX7_size_40 (by decide) ?_
        refine lv_iconst (v := 3) hx hb dX7_size_41 (by decide) ?_
        have hFc : ∀ q, va_A [] _ q → A q := fun q h => hA q (Nat.le_trans hS.1 (va_nilA h))
        refine va_calli (va_runS (As := [.int p0, .int 0, .int 3]) (rest := []) ⟨hx, hb, hml, hown, hts⟩ (tX7_in l dC dI _ p0 0 3 ) (va_cwS 3 hts (wd_S wd_393 wd_394 wd_5 (wd_c wd_395)) rfl rfl rfl ds_yX7_in_3 ⟨Nat.le_of_ble_eq_true rfl, Nat.le_of_ble_eq_true rfl⟩) ⟨Pw.fb, fun U hU hW => Pn.to hK hE hS hA hU hW⟩ rfl rfl hl.1 rfl (lv_room (Nat.le_of_ble_eq_true rfl)) dX7_size_42 ⟨Nat.le_of_ble_eq_true rfl, Nat.le_of_ble_eq_true rfl⟩) hS (fun q _ h => hFc q h) hFc (fun r u t H locs ht hvm hw hB hz1 hk1 hS => ?_)
        obtain ⟨hP, hD, hK⟩ := Bw.same ht hvm hP hD hK hk1 hFc
        clear hz1 hk1 hvm ht hB
        have hq9 := hw.2
        have hw := hw.1
        obtain ⟨x_3229, rfl⟩ : ∃ z, z = r := ⟨_, rfl⟩
        have hq_x_3229 := hq9
        have hG := hG.trans (lt_eq hq_x_3229.symm)
        have bx_3229 := hw.1
        have dx_3229 := bz_tb bx_3229
        have px_3229 := hw.2
        rcases px_3229 with ⟨gx_3229, hx_3229⟩ | ⟨gx_3229, hx_3229⟩
        · skip
          have l9x_3229 := kc_0
          have m9x_3229 := kc_3
          refine lv_if_eq (tgt := 55) hx hb dX7_size_45 (by decide) (fun c_3230 => ?_) (fun c_3230 => ?_)
          · skip
            have hG := hG.trans (if_pos c_3230)
            have gc_3230 := ti_eq c_3230 rfl kc_0
            exfalso; clear hG; omega
          · skip
            have hG := hG.trans (if_neg c_3230)
            have gc_3230 := ti_ne c_3230 rfl kc_0
            refine lv_aload_n hx hb dX7_size_48 rfl (lv_at hl 0 rfl) ?_
            refine va_get (D := (dC, dI)) (ci := 7) (v := .ref rM_r) (C := RX7) (T := TX7) (N := 48) hx hb hts inX7 hown hK hP 0 rfl rfl 15 (by decide) (hts _ wd_155) (fun _ h9 => h9) rfl dX7_size_49 ?_
            refine lv_iload_n hx hb dX7_size_52 rfl (lv_at hl 1 rfl) ?_
            refine va_iald hx hb hK hP 1 0 rfl rfl (ti_in rfl (by omega) (by omega)) dX7_size_53 ?_
            refine lv_topi (fun x_3231 ex_3231 => ?_)
            have hG := hG.trans (lt_eq ex_3231)
            have kx_3231 : (fM_r p0.toNatClampNeg).toInt = x_3231.toInt := by rw [ex_3231]
            have cx_3231 := kx_3231
            exact wq_i hx hb hr (cI x_3231) ⟨⟨trivial, trivial⟩, (cI_of x_3231)⟩ (fun t ht hW => ⟨0, (by decide), (cI_tup hG), Bw.to hP hD hK ht hW⟩) hS dX7_size_54 hlocks
        · skip
          have l9x_3229 := kc_0
          have m9x_3229 := kc_3
          refine lv_if_eq (tgt := 55) hx hb dX7_size_45 (by decide) (fun c_3232 => ?_) (fun c_3232 => ?_)
          · skip
            have hG := hG.trans (if_pos c_3232)
            have gc_3232 := ti_eq c_3232 rfl kc_0
            refine lv_iload_n hx hb dX7_size_55 rfl (lv_at hl 1 rfl) ?_
            refine lv_iconst (v := 4) hx hb dX7_size_56 (by decide) ?_
            refine lv_icmp_ne (tgt := 77) hx hb dX7_size_57 (by decide) (fun c_3233 => ?_) (fun c_3233 => ?_)
            · skip
              have hG := hG.trans (if_neg c_3233)
              have gc_3233 := ti_ne c_3233 rfl kc_4
              refine lv_iload_n hx hb dX7_size_77 rfl (lv_at hl 1 rfl) ?_
              refine lv_iconst (v := 5) hx hb dX7_size_78 (by decide) ?_
              refine lv_icmp_ne (tgt := 89) hx hb dX7_size_79 (by decide) (fun c_3234 => ?_) (fun c_3234 => ?_)
              · skip
                have hG := hG.trans (if_neg c_3234)
                have gc_3234 := ti_ne c_3234 rfl kc_5
                refine lv_iload_n hx hb dX7_size_89 rfl (lv_at hl 1 rfl) ?_
                refine lv_bipush (v := 6) hx hb dX7_size_90 (by decide) ?_
                refine lv_icmp_ne (tgt := 102) hx hb dX7_size_92 (by decide) (fun c_3235 => ?_) (fun c_3235 => ?_)
                · skip
                  have hG := hG.trans (if_neg c_3235)
                  have gc_3235 := ti_ne c_3235 rfl kc_6
                  refine lv_iconst (v := (-1)) hx hb dX7_size_102 (by decide) ?_
                  exact wq_i hx hb hr (cI (-1)) ⟨⟨trivial, trivial⟩, (cI_of (-1))⟩ (fun t ht hW => ⟨0, (by decide), (cI_tup hG), Bw.to hP hD hK ht hW⟩) hS dX7_size_103 hlocks
                · skip
                  have hG := hG.trans (if_pos c_3235)
                  have gc_3235 := ti_eq c_3235 rfl kc_6
                  refine lv_aload_n hx hb dX7_size_95 rfl (lv_at hl 0 rfl) ?_
                  refine va_get (D := (dC, dI)) (ci := 7) (v := .int iM_images) (C := RX7) (T := TX7) (N := 48) hx hb hts inX7 hown hK hP 0 rfl rfl 23 (by decide) (hts _ wd_387) (fun _ h9 => h9) rfl dX7_size_96 ?_
                  refine lv_goto (tgt := 103) hx hb dX7_size_99 (by decide) ?_
                  exact wq_i hx hb hr (cI iM_images) ⟨⟨trivial, trivial⟩, (cI_of iM_images)⟩ (fun t ht hW => ⟨0, (by decide), (cI_tup hG), Bw.to hP hD hK ht hW⟩) hS dX7_size_103 hlocks
              · skip
                have hG := hG.trans (if_pos c_3234)
                have gc_3234 := ti_eq c_3234 rfl kc_5
                refine lv_aload_n hx hb dX7_size_82 rfl (lv_at hl 0 rfl) ?_
                refine va_get (D := (dC, dI)) (ci := 7) (v := .int iM_undos) (C := RX7) (T := TX7) (N := 48) hx hb hts inX7 hown hK hP 0 rfl rfl 22 (by decide) (hts _ wd_386) (fun _ h9 => h9) rfl dX7_size_83 ?_
                refine lv_goto (tgt := 103) hx hb dX7_size_86 (by decide) ?_
                exact wq_i hx hb hr (cI iM_undos) ⟨⟨trivial, trivial⟩, (cI_of iM_undos)⟩ (fun t ht hW => ⟨0, (by decide), (cI_tup hG), Bw.to hP hD hK ht hW⟩) hS dX7_size_103 hlocks
            · skip
              have hG := hG.trans (if_pos c_3233)
              have gc_3233 := ti_eq c_3233 rfl kc_4
              refine lv_aload_n hx hb dX7_size_60 rfl (lv_at hl 0 rfl) ?_
              refine va_get (D := (dC, dI)) (ci := 7) (v := .ref rM_r) (C := RX7) (T := TX7) (N := 48) hx hb hts inX7 hown hK hP 0 rfl rfl 15 (by decide) (hts _ wd_155) (fun _ h9 => h9) rfl dX7_size_61 ?_
              refine lv_iconst (v := 4) hx hb dX7_size_64 (by decide) ?_
              refine va_iald hx hb hK hP 1 0 rfl rfl (by unfold vp_in; decide) dX7_size_65 ?_
              refine lv_topi (fun x_3236 ex_3236 => ?_)
              have hG := hG.trans (lt_eq ex_3236)
              have cx_3236 : (fM_r 4).toInt = x_3236.toInt := congrArg Int32.toInt (show fM_r 4 = x_3236 from ex_3236.symm)
              refine lv_if_le (tgt := 73) hx hb dX7_size_66 (by decide) (fun c_3237 => ?_) (fun c_3237 => ?_)
              · skip
                have hG := hG.trans (if_pos c_3237)
                have gc_3237 := ti_le c_3237 rfl kc_0
                refine lv_iconst (v := 0) hx hb dX7_size_73 (by decide) ?_
                refine lv_goto (tgt := 103) hx hb dX7_size_74 (by decide) ?_
                exact wq_i hx hb hr (cI 0) ⟨⟨trivial, trivial⟩, (cI_of 0)⟩ (fun t ht hW => ⟨0, (by decide), (cI_tup hG), Bw.to hP hD hK ht hW⟩) hS dX7_size_103 hlocks
              · skip
                have hG := hG.trans (if_neg c_3237)
                have gc_3237 := ti_nle c_3237 rfl kc_0
                refine lv_iconst (v := 1) hx hb dX7_size_69 (by decide) ?_
                refine lv_goto (tgt := 103) hx hb dX7_size_70 (by decide) ?_
                exact wq_i hx hb hr (cI 1) ⟨⟨trivial, trivial⟩, (cI_of 1)⟩ (fun t ht hW => ⟨0, (by decide), (cI_tup hG), Bw.to hP hD hK ht hW⟩) hS dX7_size_103 hlocks
          · skip
            have hG := hG.trans (if_neg c_3232)
            have gc_3232 := ti_ne c_3232 rfl kc_0
            exfalso; clear hG; omega
      · skip
        have hG := hG.trans (if_pos c_3228)
        have gc_3228 := ti_eq c_3228 rfl kc_0
        refine lv_iload_n hx hb dX7_size_23 rfl (lv_at hl 1 rfl) ?_
        refine lv_iconst (v := 0) hx hb dX7_size_24 (by decide) ?_
        refine lv_bipush (v := 6) hx hb dX7_size_25 (by decide) ?_
        have hFc : ∀ q, va_A [] _ q → A q := fun q h => hA q (Nat.le_trans hS.1 (va_nilA h))
        refine va_calli (va_runS (As := [.int p0, .int 0, .int 6]) (rest := []) ⟨hx, hb, hml, hown, hts⟩ (tX7_in l dC dI _ p0 0 6 ) (va_cwS 3 hts (wd_S wd_393 wd_394 wd_5 (wd_c wd_395)) rfl rfl rfl ds_yX7_in_3 ⟨Nat.le_of_ble_eq_true rfl, Nat.le_of_ble_eq_true rfl⟩) ⟨Pw.fb, fun U hU hW => Pn.to hK hE hS hA hU hW⟩ rfl rfl hl.1 rfl (lv_room (Nat.le_of_ble_eq_true rfl)) dX7_size_27 ⟨Nat.le_of_ble_eq_true rfl, Nat.le_of_ble_eq_true rfl⟩) hS (fun q _ h => hFc q h) hFc (fun r u t H locs ht hvm hw hB hz1 hk1 hS => ?_)
        obtain ⟨hP, hD, hK⟩ := Bw.same ht hvm hP hD hK hk1 hFc
        clear hz1 hk1 hvm ht hB
        have hq9 := hw.2
        have hw := hw.1
        obtain ⟨x_3238, rfl⟩ : ∃ z, z = r := ⟨_, rfl⟩
        have hq_x_3238 := hq9
        have hG := hG.trans (lt_eq hq_x_3238.symm)
        have bx_3238 := hw.1
        have dx_3238 := bz_tb bx_3238
        have px_3238 := hw.2
        rcases px_3238 with ⟨gx_3238, hx_3238⟩ | ⟨gx_3238, hx_3238⟩
        · skip
          have l9x_3238 := kc_0
          have m9x_3238 := kc_6
          refine lv_if_eq (tgt := 37) hx hb dX7_size_30 (by decide) (fun c_3239 => ?_) (fun c_3239 => ?_)
          · skip
            have hG := hG.trans (if_pos c_3239)
            have gc_3239 := ti_eq c_3239 rfl kc_0
            exfalso; clear hG; omega
          · skip
            have hG := hG.trans (if_neg c_3239)
            have gc_3239 := ti_ne c_3239 rfl kc_0
            refine lv_iconst (v := 0) hx hb dX7_size_33 (by decide) ?_
            refine lv_goto (tgt := 38) hx hb dX7_size_34 (by decide) ?_
            exact wq_i hx hb hr (cI 0) ⟨⟨trivial, trivial⟩, (cI_of 0)⟩ (fun t ht hW => ⟨0, (by decide), (cI_tup hG), Bw.to hP hD hK ht hW⟩) hS dX7_size_38 hlocks
        · skip
          have l9x_3238 := kc_0
          have m9x_3238 := kc_6
          refine lv_if_eq (tgt := 37) hx hb dX7_size_30 (by decide) (fun c_3240 => ?_) (fun c_3240 => ?_)
          · skip
            have hG := hG.trans (if_pos c_3240)
            have gc_3240 := ti_eq c_3240 rfl kc_0
            refine lv_iconst (v := (-1)) hx hb dX7_size_37 (by decide) ?_
            exact wq_i hx hb hr (cI (-1)) ⟨⟨trivial, trivial⟩, (cI_of (-1))⟩ (fun t ht hW => ⟨0, (by decide), (cI_tup hG), Bw.to hP hD hK ht hW⟩) hS dX7_size_38 hlocks
          · skip
            have hG := hG.trans (if_neg c_3240)
            have gc_3240 := ti_ne c_3240 rfl kc_0
            exfalso; clear hG; omega
  · skip
    have hG := hG.trans (if_pos c_3223)
    have gc_3223 := ti_eq c_3223 rfl kc_7
    refine lv_aload_n hx hb dX7_size_11 rfl (lv_at hl 0 rfl) ?_
    refine va_get (D := (dC, dI)) (ci := 7) (v := .int iM_taped) (C := RX7) (T := TX7) (N := 48) hx hb hts inX7 hown hK hP 0 rfl rfl 2 (by decide) (hts _ wd_185) (fun _ h9 => h9) rfl dX7_size_12 ?_
    exact wq_i hx hb hr (cI iM_taped) ⟨⟨trivial, trivial⟩, (cI_of iM_taped)⟩ (fun t ht hW => ⟨0, (by decide), (cI_tup hG), Bw.to hP hD hK ht hW⟩) hS dX7_size_15 hlocks
set_option maxHeartbeats 4000000 in
set_option maxRecDepth 100000 in
theorem tX7_trouble (l : Launch) (dC : Nat → ClassId) (dI : Nat → Nat → Nat) (sz : Nat) (oM : Nat) (iM_thrown : Int32) (rM_tape : Nat) (iM_taped : Int32) (iM_size : Int32) (iM_at : Int32) (iM_end : Int32) (iM_token : Int32) (iM_whole : Int32) (iM_nameSize : Int32) (iM_fault : Int32) (iM_place : Int32) (iM_trouble : Int32) (rM_letters : Nat) (iM_failed : Int32) (iM_hasCourt : Int32) (rM_r : Nat) (rM_fresh : Nat) (rM_told : Nat) (rM_read : Nat) (rM_st : Nat) (rM_undone : Nat) (rM_kept : Nat) (iM_undos : Int32) (iM_images : Int32) (rM_fresher : Nat) (iM_fresherSize : Int32) (iM_scale : Int32) (iM_night : Int32) (rM_heardRow : Nat) (rM_cutRow : Nat) (iM_breaths : Int32) (iM_cutMany : Int32) (iM_allBreaths : Int32) (rM_trial : Nat) (rM_words : Nat) (iM_fewestBreaths : Int32) (iM_orderMany : Int32) (iM_orderSum : Int32) (iM_leastOrder : Int32) (rM_often : Nat) (iM_setMany : Int32) (iM_someOf : Int32) (iM_allOf : Int32) (iM_allWeight : Int64) (iM_enoughWeight : Int64) (iM_worthSum : Int64) (iM_firstRest : Int32) (iM_leastDrawn : Int32) (b_iM_taped : 0 ≤ iM_taped.toInt ∧ iM_taped.toInt ≤ 900) (b_iM_size : 0 ≤ iM_size.toInt ∧ iM_size.toInt ≤ 900) (b_iM_end : 0 ≤ iM_end.toInt ∧ iM_end.toInt ≤ 900) (b_iM_failed : 0 ≤ iM_failed.toInt ∧ iM_failed.toInt ≤ 1) (b_iM_hasCourt : 0 ≤ iM_hasCourt.toInt ∧ iM_hasCourt.toInt ≤ 1) (b_iM_undos : 0 ≤ iM_undos.toInt ∧ iM_undos.toInt ≤ 16) (b_iM_images : 0 ≤ iM_images.toInt ∧ iM_images.toInt ≤ 3) (b_iM_scale : 1 ≤ iM_scale.toInt ∧ iM_scale.toInt ≤ 1296) (b_iM_breaths : 0 ≤ iM_breaths.toInt ∧ iM_breaths.toInt ≤ 399) (b_iM_cutMany : 0 ≤ iM_cutMany.toInt ∧ iM_cutMany.toInt ≤ 399)  : Met l yX7_trouble (Cond.code yX7_trouble cX7_trouble 1 (some .int) :: wG) ({ frames := 0, cells := 0, slots := 0, locals := 0 }) (va_Pc [.ref oM] (Pw dC dI sz [(oc7 oM iM_thrown rM_tape iM_taped iM_size iM_at iM_end iM_token iM_whole iM_nameSize iM_fault iM_place iM_trouble rM_letters iM_failed iM_hasCourt rM_r rM_fresh rM_told rM_read rM_st rM_undone rM_kept iM_undos iM_images rM_fresher iM_fresherSize iM_scale iM_night rM_heardRow rM_cutRow iM_breaths iM_cutMany iM_allBreaths rM_trial rM_words iM_fewestBreaths iM_orderMany iM_orderSum iM_leastOrder rM_often iM_setMany iM_someOf iM_allOf iM_allWeight iM_enoughWeight iM_worthSum iM_firstRest iM_leastDrawn)] [])) (va_Qi (fun (r : Int32) (u : Nat) => (True ∧ True) ∧ r = Int32.ofNat u) (fun (u : Nat) (t : State) => ∃ (niM_thrown : Int32), (0 ≤ niM_thrown.toInt ∧ niM_thrown.toInt ≤ 0) ∧ (PX7_trouble iM_trouble = (Int32.ofNat u, niM_thrown)) ∧ Bw dC dI (va_A [(oc7 oM iM_thrown rM_tape iM_taped iM_size iM_at iM_end iM_token iM_whole iM_nameSize iM_fault iM_place iM_trouble rM_letters iM_failed iM_hasCourt rM_r rM_fresh rM_told rM_read rM_st rM_undone rM_kept iM_undos iM_images rM_fresher iM_fresherSize iM_scale iM_night rM_heardRow rM_cutRow iM_breaths iM_cutMany iM_allBreaths rM_trial rM_words iM_fewestBreaths iM_orderMany iM_orderSum iM_leastOrder rM_often iM_setMany iM_someOf iM_allOf iM_allWeight iM_enoughWeight iM_worthSum iM_firstRest iM_leastDrawn)] sz) [(oc7 oM niM_thrown rM_tape iM_taped iM_size iM_at iM_end iM_token iM_whole iM_nameSize iM_fault iM_place iM_trouble rM_letters iM_failed iM_hasCourt rM_r rM_fresh rM_told rM_read rM_st rM_undone rM_kept iM_undos iM_images rM_fresher iM_fresherSize iM_scale iM_night rM_heardRow rM_cutRow iM_breaths iM_cutMany iM_allBreaths rM_trial rM_words iM_fewestBreaths iM_orderMany iM_orderSum iM_leastOrder rM_often iM_setMany iM_someOf iM_allOf iM_allWeight iM_enoughWeight iM_worthSum iM_firstRest iM_leastDrawn)] [] t) (va_A [(oc7 oM iM_thrown rM_tape iM_taped iM_size iM_at iM_end iM_token iM_whole iM_nameSize iM_fault iM_place iM_trouble rM_letters iM_failed iM_hasCourt rM_r rM_fresh rM_told rM_read rM_st rM_undone rM_kept iM_undos iM_images rM_fresher iM_fresherSize iM_scale iM_night rM_heardRow rM_cutRow iM_breaths iM_cutMany iM_allBreaths rM_trial rM_words iM_fewestBreaths iM_orderMany iM_orderSum iM_leastOrder rM_often iM_setMany iM_someOf iM_allOf iM_allWeight iM_enoughWeight iM_worthSum iM_firstRest iM_leastDrawn)] sz)) 0 0 (va_A [(oc7 oM iM_thrown rM_tape iM_taped iM_size iM_at iM_end iM_token iM_whole iM_nameSize iM_fault iM_place iM_trouble rM_letters iM_failed iM_hasCourt rM_r rM_fresh rM_told rM_read rM_st rM_undone rM_kept iM_undos iM_images rM_fresher iM_fresherSize iM_scale iM_night rM_heardRow rM_cutRow iM_breaths iM_cutMany iM_allBreaths rM_trial rM_words iM_fewestBreaths iM_orderMany iM_orderSum iM_leastOrder rM_often iM_setMany iM_someOf iM_allOf iM_allWeight iM_enoughWeight iM_worthSum iM_firstRest iM_leastDrawn)] sz) := by
  refine Met.ofW (cc := cX7_trouble) (maxL := 1) (ret := (some .int)) pnX7 rfl ?_
  intro p e s m args below meth c s₁ B hml hv
  obtain ⟨rfl, hsz, hP, hK, hD0, hE⟩ := hv
  have hx := B.exec
  have hb := B.bytes
  have hr := B.returns
  have hts : ∀ w ∈ wG, w.before ([.ref oM] : List Value).toArray s = true := fun w h => atoms_spec (ws := Cond.code yX7_trouble cX7_trouble 1 (some .int) :: wG) B.pre w (List.mem_cons_of_mem _ h)
  have hown : s.vm.findClass RX7 = some m.cls := own_of B.named rfl
  have hlocks := B.notSynchronized
  subst hsz
  have hD := hD0.self (sz := s.heap.size)
  generalize hAe : va_A [(oc7 oM iM_thrown rM_tape iM_taped iM_size iM_at iM_end iM_token iM_whole iM_nameSize iM_fault iM_place iM_trouble rM_letters iM_failed iM_hasCourt rM_r rM_fresh rM_told rM_read rM_st rM_undone rM_kept iM_undos iM_images rM_fresher iM_fresherSize iM_scale iM_night rM_heardRow rM_cutRow iM_breaths iM_cutMany iM_allBreaths rM_trial rM_words iM_fewestBreaths iM_orderMany iM_orderSum iM_leastOrder rM_often iM_setMany iM_someOf iM_allOf iM_allWeight iM_enoughWeight iM_worthSum iM_firstRest iM_leastDrawn)] s.heap.size = A at hD hE ⊢
  have hA : ∀ q : Nat, s.heap.size ≤ q → A q := fun q h => by rw [← hAe]; exact Or.inr h
  have hS : va_S A s.heap s.heap [] := va_S.rf
  have hl := lv_entry ([.ref oM]) (n := 1) (Nat.le_of_ble_eq_true rfl)
  rw [lg_entry_eq]
  generalize (lg_sl ([.ref oM]) ++ List.replicate (1 - (lg_sl ([.ref oM])).length) Slot.unset).toArray = ls at hl ⊢
  have hl : lv_has ls 1 [(0, .ref oM)] := hl
  have hG := PX7_trouble_eq iM_trouble
  refine lv_aload_n hx hb dX7_trouble_0 rfl (lv_at hl 0 rfl) ?_
  refine lv_iconst (v := 0) hx hb dX7_trouble_1 (by decide) ?_
  refine va_put (D := (dC, dI)) (ci := 7) (v := .int 0) (ty := .int) (C := RX7) (T := TX7) (N := 48) hx hb hts inX7 tyX7 tyX7_ok nmX7 hown hK hP hD hS 0 rfl rfl 0 (by decide) (hts _ wd_184) (fun _ h9 => h9) rfl (by decide +kernel) rfl rfl (Nat.le_of_ble_eq_true rfl) dX7_trouble_2 (fun H locs hP hD hS => ?_)
  obtain ⟨hP, hD⟩ := wl2 (ws' := [(oc7 oM 0 rM_tape iM_taped iM_size iM_at iM_end iM_token iM_whole iM_nameSize iM_fault iM_place iM_trouble rM_letters iM_failed iM_hasCourt rM_r rM_fresh rM_told rM_read rM_st rM_undone rM_kept iM_undos iM_images rM_fresher iM_fresherSize iM_scale iM_night rM_heardRow rM_cutRow iM_breaths iM_cutMany iM_allBreaths rM_trial rM_words iM_fewestBreaths iM_orderMany iM_orderSum iM_leastOrder rM_often iM_setMany iM_someOf iM_allOf iM_allWeight iM_enoughWeight iM_worthSum iM_firstRest iM_leastDrawn)]) hP hD rfl
  refine lv_aload_n hx hb dX7_trouble_5 rfl (lv_at hl 0 rfl) ?_
  refine va_get (D := (dC, dI)) (ci := 7) (v := .int iM_trouble) (C := RX7) (T := TX7) (N := 48) hx hb hts inX7 hown hK hP 0 rfl rfl 11 (by decide) (hts _ wd_392) (fun _ h9 => h9) rfl dX7_trouble_6 ?_
  exact wq_i hx hb hr (cI iM_trouble) ⟨⟨trivial, trivial⟩, (cI_of iM_trouble)⟩ (fun t ht hW => ⟨0, (by decide), (cI_tup hG), Bw.to hP hD hK ht hW⟩) hS dX7_trouble_9 hlocks
set_option maxHeartbeats 4000000 in
set_option maxRecDepth 100000 in
theorem tX7_led (l : Launch) (dC : Nat → ClassId) (dI : Nat → Nat → Nat) (sz : Nat) (oM : Nat) (iM_thrown : Int32) (rM_tape : Nat) (iM_taped : Int32) (iM_size : Int32) (iM_at : Int32) (iM_end : Int32) (iM_token : Int32) (iM_whole : Int32) (iM_nameSize : Int32) (iM_fault : Int32) (iM_place : Int32) (iM_trouble : Int32) (rM_letters : Nat) (iM_failed : Int32) (iM_hasCourt : Int32) (rM_r : Nat) (fM_r : Nat → Int32) (kM_r : ClassId) (rM_fresh : Nat) (rM_told : Nat) (fM_told : Nat → Int32) (kM_told : ClassId) (rM_read : Nat) (rM_st : Nat) (fM_st : Nat → Int32) (kM_st : ClassId) (rM_undone : Nat) (rM_kept : Nat) (iM_undos : Int32) (iM_images : Int32) (rM_fresher : Nat) (iM_fresherSize : Int32) (iM_scale : Int32) (iM_night : Int32) (rM_heardRow : Nat) (fM_heardRow : Nat → Int32) (kM_heardRow : ClassId) (rM_cutRow : Nat) (fM_cutRow : Nat → Int32) (kM_cutRow : ClassId) (iM_breaths : Int32) (iM_cutMany : Int32) (iM_allBreaths : Int32) (rM_trial : Nat) (rM_words : Nat) (iM_fewestBreaths : Int32) (iM_orderMany : Int32) (iM_orderSum : Int32) (iM_leastOrder : Int32) (rM_often : Nat) (iM_setMany : Int32) (iM_someOf : Int32) (iM_allOf : Int32) (iM_allWeight : Int64) (iM_enoughWeight : Int64) (iM_worthSum : Int64) (iM_firstRest : Int32) (iM_leastDrawn : Int32) (p0 : Int32) (b_iM_taped : 0 ≤ iM_taped.toInt ∧ iM_taped.toInt ≤ 900) (b_iM_size : 0 ≤ iM_size.toInt ∧ iM_size.toInt ≤ 900) (b_iM_end : 0 ≤ iM_end.toInt ∧ iM_end.toInt ≤ 900) (b_iM_failed : 0 ≤ iM_failed.toInt ∧ iM_failed.toInt ≤ 1) (b_iM_hasCourt : 0 ≤ iM_hasCourt.toInt ∧ iM_hasCourt.toInt ≤ 1) (b_iM_undos : 0 ≤ iM_undos.toInt ∧ iM_undos.toInt ≤ 16) (b_iM_images : 0 ≤ iM_images.toInt ∧ iM_images.toInt ≤ 3) (b_iM_scale : 1 ≤ iM_scale.toInt ∧ iM_scale.toInt ≤ 1296) (b_iM_breaths : 0 ≤ iM_breaths.toInt ∧ iM_breaths.toInt ≤ 399) (b_iM_cutMany : 0 ≤ iM_cutMany.toInt ∧ iM_cutMany.toInt ≤ 399) (r_R : ROk fM_r) (r_C : iM_hasCourt.toInt ≤ 0 ∨ (1 ≤ (fM_r 1).toInt ∧ 0 ≤ (fM_r 6).toInt ∧ (fM_r 6).toInt < (fM_r 1).toInt)) (r_st : RowOk fM_r fM_st) (r_told : RowOk fM_r fM_told) (r_wst : WorOk fM_st)  : Met l yX7_led (Cond.code yX7_led cX7_led 5 (some .int) :: wG) ({ frames := 23, cells := 0, slots := 0, locals := 647 }) (va_Pc [.ref oM, .int p0] (Pw dC dI sz [(oc7 oM iM_thrown rM_tape iM_taped iM_size iM_at iM_end iM_token iM_whole iM_nameSize iM_fault iM_place iM_trouble rM_letters iM_failed iM_hasCourt rM_r rM_fresh rM_told rM_read rM_st rM_undone rM_kept iM_undos iM_images rM_fresher iM_fresherSize iM_scale iM_night rM_heardRow rM_cutRow iM_breaths iM_cutMany iM_allBreaths rM_trial rM_words iM_fewestBreaths iM_orderMany iM_orderSum iM_leastOrder rM_often iM_setMany iM_someOf iM_allOf iM_allWeight iM_enoughWeight iM_worthSum iM_firstRest iM_leastDrawn), (arI rM_r kM_r 287 fM_r), (arI rM_told kM_told 90 fM_told), (arI rM_st kM_st 90 fM_st), (arI rM_heardRow kM_heardRow 400 fM_heardRow), (arI rM_cutRow kM_cutRow 800 fM_cutRow)] [(kM_r, .int), (kM_told, .int), (kM_st, .int), (kM_heardRow, .int), (kM_cutRow, .int)])) (va_Qi (fun (r : Int32) (_ : Nat) => True ∧ True) (fun (_ : Nat) (t : State) => ∃ (niM_thrown : Int32) (niM_breaths : Int32) (niM_cutMany : Int32) (nfM_heardRow : Nat → Int32) (nfM_cutRow : Nat → Int32), (0 ≤ niM_thrown.toInt ∧ niM_thrown.toInt ≤ 1) ∧ (0 ≤ niM_breaths.toInt ∧ niM_breaths.toInt ≤ 399) ∧ (0 ≤ niM_cutMany.toInt ∧ niM_cutMany.toInt ≤ 399) ∧ Bw dC dI (va_A [(oc7 oM iM_thrown rM_tape iM_taped iM_size iM_at iM_end iM_token iM_whole iM_nameSize iM_fault iM_place iM_trouble rM_letters iM_failed iM_hasCourt rM_r rM_fresh rM_told rM_read rM_st rM_undone rM_kept iM_undos iM_images rM_fresher iM_fresherSize iM_scale iM_night rM_heardRow rM_cutRow iM_breaths iM_cutMany iM_allBreaths rM_trial rM_words iM_fewestBreaths iM_orderMany iM_orderSum iM_leastOrder rM_often iM_setMany iM_someOf iM_allOf iM_allWeight iM_enoughWeight iM_worthSum iM_firstRest iM_leastDrawn), (arI rM_r kM_r 287 fM_r), (arI rM_told kM_told 90 fM_told), (arI rM_st kM_st 90 fM_st), (arI rM_heardRow kM_heardRow 400 fM_heardRow), (arI rM_cutRow kM_cutRow 800 fM_cutRow)] sz) [(oc7 oM niM_thrown rM_tape iM_taped iM_size iM_at iM_end iM_token iM_whole iM_nameSize iM_fault iM_place iM_trouble rM_letters iM_failed iM_hasCourt rM_r rM_fresh rM_told rM_read rM_st rM_undone rM_kept iM_undos iM_images rM_fresher iM_fresherSize iM_scale iM_night rM_heardRow rM_cutRow niM_breaths niM_cutMany iM_allBreaths rM_trial rM_words iM_fewestBreaths iM_orderMany iM_orderSum iM_leastOrder rM_often iM_setMany iM_someOf iM_allOf iM_allWeight iM_enoughWeight iM_worthSum iM_firstRest iM_leastDrawn), (arI rM_r kM_r 287 fM_r), (arI rM_told kM_told 90 fM_told), (arI rM_st kM_st 90 fM_st), (arI rM_heardRow kM_heardRow 400 nfM_heardRow), (arI rM_cutRow kM_cutRow 800 nfM_cutRow)] [(kM_r, .int), (kM_told, .int), (kM_st, .int), (kM_heardRow, .int), (kM_cutRow, .int)] t) (va_A [(oc7 oM iM_thrown rM_tape iM_taped iM_size iM_at iM_end iM_token iM_whole iM_nameSize iM_fault iM_place iM_trouble rM_letters iM_failed iM_hasCourt rM_r rM_fresh rM_told rM_read rM_st rM_undone rM_kept iM_undos iM_images rM_fresher iM_fresherSize iM_scale iM_night rM_heardRow rM_cutRow iM_breaths iM_cutMany iM_allBreaths rM_trial rM_words iM_fewestBreaths iM_orderMany iM_orderSum iM_leastOrder rM_often iM_setMany iM_someOf iM_allOf iM_allWeight iM_enoughWeight iM_worthSum iM_firstRest iM_leastDrawn), (arI rM_r kM_r 287 fM_r), (arI rM_told kM_told 90 fM_told), (arI rM_st kM_st 90 fM_st), (arI rM_heardRow kM_heardRow 400 fM_heardRow), (arI rM_cutRow kM_cutRow 800 fM_cutRow)] sz)) 0 0 (va_A [(oc7 oM iM_thrown rM_tape iM_taped iM_size iM_at iM_end iM_token iM_whole iM_nameSize iM_fault iM_place iM_trouble rM_letters iM_failed iM_hasCourt rM_r rM_fresh rM_told rM_read rM_st rM_undone rM_kept iM_undos iM_images rM_fresher iM_fresherSize iM_scale iM_night rM_heardRow rM_cutRow iM_breaths iM_cutMany iM_allBreaths rM_trial rM_words iM_fewestBreaths iM_orderMany iM_orderSum iM_leastOrder rM_often iM_setMany iM_someOf iM_allOf iM_allWeight iM_enoughWeight iM_worthSum iM_firstRest iM_leastDrawn), (arI rM_r kM_r 287 fM_r), (arI rM_told kM_told 90 fM_told), (arI rM_st kM_st 90 fM_st), (arI rM_heardRow kM_heardRow 400 fM_heardRow), (arI rM_cutRow kM_cutRow 800 fM_cutRow)] sz) := by
  refine Met.ofW (cc := cX7_led) (maxL := 5) (ret := (some .int)) pnX7 rfl ?_
  intro p e s m args below meth c s₁ B hml hv
  obtain ⟨rfl, hsz, hP, hK, hD0, hE⟩ := hv
  have hx := B.exec
  have hb := B.bytes
  have hr := B.returns
  have hts : ∀ w ∈ wG, w.before ([.ref oM, .int p0] : List Value).toArray s = true := fun w h => atoms_spec (ws := Cond.code yX7_led cX7_led 5 (some .int) :: wG) B.pre w (List.mem_cons_of_mem _ h)
  have hown : s.vm.findClass RX7 = some m.cls := own_of B.named rfl
  have hlocks := B.notSynchronized
  subst hsz
  have hD := hD0.self (sz := s.heap.size)
  generalize hAe : va_A [(oc7 oM iM_thrown rM_tape iM_taped iM_size iM_at iM_end iM_token iM_whole iM_nameSize iM_fault iM_place iM_trouble rM_letters iM_failed iM_hasCourt rM_r rM_fresh rM_told rM_read rM_st rM_undone rM_kept iM_undos iM_images rM_fresher iM_fresherSize iM_scale iM_night rM_heardRow rM_cutRow iM_breaths iM_cutMany iM_allBreaths rM_trial rM_words iM_fewestBreaths iM_orderMany iM_orderSum iM_leastOrder rM_often iM_setMany iM_someOf iM_allOf iM_allWeight iM_enoughWeight iM_worthSum iM_firstRest iM_leastDrawn), (arI rM_r kM_r 287 fM_r), (arI rM_told kM_told 90 fM_told), (arI rM_st kM_st 90 fM_st), (arI rM_heardRow kM_heardRow 400 fM_heardRow), (arI rM_cutRow kM_cutRow 800 fM_cutRow)] s.heap.size = A at hD hE ⊢
  have hA : ∀ q : Nat, s.heap.size ≤ q → A q := fun q h => by rw [← hAe]; exact Or.inr h
  have hS : va_S A s.heap s.heap [] := va_S.rf
  have hl := lv_entry ([.ref oM, .int p0]) (n := 5) (Nat.le_of_ble_eq_true rfl)
  rw [lg_entry_eq]
  generalize (lg_sl ([.ref oM, .int p0]) ++ List.replicate (5 - (lg_sl ([.ref oM, .int p0])).length) Slot.unset).toArray = ls at hl ⊢
  have hl : lv_has ls 5 [(0, .ref oM), (1, .int p0)] := hl
  have rg_p0 := fb_rng p0
  have s_slips := r_R.slips
  have s_nodes := r_R.nodes
  have s_uns := r_R.uns
  refine lv_iconst (v := 0) hx hb dX7_led_0 (by decide) ?_
  refine lv_istore_n (lv' := [(2, .int 0), (0, .ref oM), (1, .int p0)]) hx hb dX7_led_1 rfl hl (by decide) rfl (fun ls hl => ?_)
  refine lv_aload_n hx hb dX7_led_2 rfl (lv_at hl 1 rfl) ?_
  rcases (show iM_hasCourt.toInt ≤ 0 ∨ (1 ≤ iM_hasCourt.toInt ∧ 1 ≤ (fM_r 1).toInt ∧ 0 ≤ (fM_r 6).toInt ∧ (fM_r 6).toInt < (fM_r 1).toInt) from by omega) with r_C0 | r_C1
  · skip
    refine va_get (D := (dC, dI)) (ci := 7) (v := .int iM_hasCourt) (C := RX7) (T := TX7) (N := 48) hx hb hts inX7 hown hK hP 0 rfl rfl 14 (by decide) (hts _ wd_385) (fun _ h9 => h9) rfl dX7_led_3 ?_
    have rg_iM_hasCourt := fb_rng iM_hasCourt
    refine lv_if_eq (tgt := 16) hx hb dX7_led_6 (by decide) (fun c_3292 => ?_) (fun c_3292 => ?_)
    · skip
      have gc_3292 := ti_eq c_3292 rfl kc_0
      refine lv_iconst (v := 0) hx hb dX7_led_16 (by decide) ?_
      refine lv_istore_n (lv' := [(3, .int 0), (2, .int 0), (0, .ref oM), (1, .int p0)]) hx hb dX7_led_17 rfl hl (by decide) rfl (fun ls hl => ?_)
      refine lv_iconst (v := 0) hx hb dX7_led_18 (by decide) ?_
      refine lv_istore (lv' := [(4, .int 0), (3, .int 0), (2, .int 0), (0, .ref oM), (1, .int p0)]) hx hb dX7_led_19 hl (by decide) rfl (fun ls hl => ?_)
      have hl := lv_sub hl (l' := [(4, .int 0), (3, .int 0), (2, .int 0), (0, .ref oM), (1, .int p0)]) [0, 1, 2, 3, 4] rfl
      have key_n_3295 : ∀ (n_3295 : Nat) (z_3293 : Int32) (z_3294 : Int32) (H : Heap) (locs : List Loc) (ls : Array Slot), (0 ≤ z_3293.toInt ∧ z_3293.toInt ≤ 2147483647) → (2147483647 - z_3293.toInt).toNat < n_3295 → va_P (dC, dI) vwCl [(oc7 oM iM_thrown rM_tape iM_taped iM_size iM_at iM_end iM_token iM_whole iM_nameSize iM_fault iM_place iM_trouble rM_letters iM_failed iM_hasCourt rM_r rM_fresh rM_told rM_read rM_st rM_undone rM_kept iM_undos iM_images rM_fresher iM_fresherSize iM_scale iM_night rM_heardRow rM_cutRow iM_breaths iM_cutMany iM_allBreaths rM_trial rM_words iM_fewestBreaths iM_orderMany iM_orderSum iM_leastOrder rM_often iM_setMany iM_someOf iM_allOf iM_allWeight iM_enoughWeight iM_worthSum iM_firstRest iM_leastDrawn), (arI rM_r kM_r 287 fM_r), (arI rM_told kM_told 90 fM_told), (arI rM_st kM_st 90 fM_st), (arI rM_heardRow kM_heardRow 400 fM_heardRow), (arI rM_cutRow kM_cutRow 800 fM_cutRow)] H → va_D A [(oc7 oM iM_thrown rM_tape iM_taped iM_size iM_at iM_end iM_token iM_whole iM_nameSize iM_fault iM_place iM_trouble rM_letters iM_failed iM_hasCourt rM_r rM_fresh rM_told rM_read rM_st rM_undone rM_kept iM_undos iM_images rM_fresher iM_fresherSize iM_scale iM_night rM_heardRow rM_cutRow iM_breaths iM_cutMany iM_allBreaths rM_trial rM_words iM_fewestBreaths iM_orderMany iM_orderSum iM_leastOrder rM_often iM_setMany iM_someOf iM_allOf iM_allWeight iM_enoughWeight iM_worthSum iM_firstRest iM_leastDrawn), (arI rM_r kM_r 287 fM_r), (arI rM_told kM_told 90 fM_told), (arI rM_st kM_st 90 fM_st), (arI rM_heardRow kM_heardRow 400 fM_heardRow), (arI rM_cutRow kM_cutRow 800 fM_cutRow)] → va_S A s.heap H locs → lv_has ls 5 [(4, .int z_3293), (3, .int 0), (2, .int z_3294), (0, .ref oM), (1, .int p0)] → W p l e (headSpec (Cond.code yX7_led cX7_led 5 (some .int) :: wG) ({ frames := 23, cells := 0, slots := 0, locals := 647 })).room s m ([.ref oM, .int p0] : List Value).toArray below meth c H locs 0 0 (MQ below (va_Qi (fun (r : Int32) (_ : Nat) => True ∧ True) (fun (_ : Nat) (t : State) => ∃ (niM_thrown : Int32) (niM_breaths : Int32) (niM_cutMany : Int32) (nfM_heardRow : Nat → Int32) (nfM_cutRow : Nat → Int32), (0 ≤ niM_thrown.toInt ∧ niM_thrown.toInt ≤ 1) ∧ (0 ≤ niM_breaths.toInt ∧ niM_breaths.toInt ≤ 399) ∧ (0 ≤ niM_cutMany.toInt ∧ niM_cutMany.toInt ≤ 399) ∧ Bw dC dI A [(oc7 oM niM_thrown rM_tape iM_taped iM_size iM_at iM_end iM_token iM_whole iM_nameSize iM_fault iM_place iM_trouble rM_letters iM_failed iM_hasCourt rM_r rM_fresh rM_told rM_read rM_st rM_undone rM_kept iM_undos iM_images rM_fresher iM_fresherSize iM_scale iM_night rM_heardRow rM_cutRow niM_breaths niM_cutMany iM_allBreaths rM_trial rM_words iM_fewestBreaths iM_orderMany iM_orderSum iM_leastOrder rM_often iM_setMany iM_someOf iM_allOf iM_allWeight iM_enoughWeight iM_worthSum iM_firstRest iM_leastDrawn), (arI rM_r kM_r 287 fM_r), (arI rM_told kM_told 90 fM_told), (arI rM_st kM_st 90 fM_st), (arI rM_heardRow kM_heardRow 400 nfM_heardRow), (arI rM_cutRow kM_cutRow 800 nfM_cutRow)] [(kM_r, .int), (kM_told, .int), (kM_st, .int), (kM_heardRow, .int), (kM_cutRow, .int)] t) A) ([.ref oM, .int p0] : List Value).toArray s 0 0 A) (F0 m 21 ls []) := by
        intro n_3295
        induction n_3295 with
        | zero => intro z_3293 z_3294 H locs ls hi0_n_3295 hm; exact absurd hm (Nat.not_lt_zero _)
        | succ n_3295 ih_n_3295 =>
          intro z_3293 z_3294 H locs ls hi0_n_3295 hm_n_3295 hP hD hS hl
          have rg_z_3293 := fb_rng z_3293
          have rg_z_3294 := fb_rng z_3294
          refine lv_aload_n hx hb dX7_led_21 rfl (lv_at hl 3 rfl) ?_
          refine va_get (D := (dC, dI)) (ci := 7) (v := .int iM_hasCourt) (C := RX7) (T := TX7) (N := 48) hx hb hts inX7 hown hK hP 0 rfl rfl 14 (by decide) (hts _ wd_385) (fun _ h9 => h9) rfl dX7_led_22 ?_
          refine lv_if_eq (tgt := 86) hx hb dX7_led_25 (by decide) (fun c_3296 => ?_) (fun c_3296 => ?_)
          · skip
            have gc_3296 := ti_eq c_3296 rfl kc_0
            refine lv_aload_n hx hb dX7_led_86 rfl (lv_at hl 3 rfl) ?_
            refine lv_iconst (v := 1) hx hb dX7_led_87 (by decide) ?_
            refine va_put (D := (dC, dI)) (ci := 7) (v := .int 1) (ty := .int) (C := RX7) (T := TX7) (N := 48) hx hb hts inX7 tyX7 tyX7_ok nmX7 hown hK hP hD hS 0 rfl rfl 0 (by decide) (hts _ wd_184) (fun _ h9 => h9) rfl (by decide +kernel) rfl rfl (Nat.le_of_ble_eq_true rfl) dX7_led_88 (fun H locs hP hD hS => ?_)
            obtain ⟨hP, hD⟩ := wl2 (ws' := [(oc7 oM 1 rM_tape iM_taped iM_size iM_at iM_end iM_token iM_whole iM_nameSize iM_fault iM_place iM_trouble rM_letters iM_failed iM_hasCourt rM_r rM_fresh rM_told rM_read rM_st rM_undone rM_kept iM_undos iM_images rM_fresher iM_fresherSize iM_scale iM_night rM_heardRow rM_cutRow iM_breaths iM_cutMany iM_allBreaths rM_trial rM_words iM_fewestBreaths iM_orderMany iM_orderSum iM_leastOrder rM_often iM_setMany iM_someOf iM_allOf iM_allWeight iM_enoughWeight iM_worthSum iM_firstRest iM_leastDrawn), (arI rM_r kM_r 287 fM_r), (arI rM_told kM_told 90 fM_told), (arI rM_st kM_st 90 fM_st), (arI rM_heardRow kM_heardRow 400 fM_heardRow), (arI rM_cutRow kM_cutRow 800 fM_cutRow)]) hP hD rfl
            refine lv_iconst (v := 0) hx hb dX7_led_91 (by decide) ?_
            exact wq_i hx hb hr 0 ⟨trivial, trivial⟩ (fun t ht hW => ⟨1, iM_breaths, iM_cutMany, fM_heardRow, fM_cutRow, (by decide), ⟨b_iM_breaths.1, b_iM_breaths.2⟩, ⟨b_iM_cutMany.1, b_iM_cutMany.2⟩, Bw.to hP hD hK ht hW⟩) hS dX7_led_92 hlocks
          · skip
            have gc_3296 := ti_ne c_3296 rfl kc_0
            exact (om_c9ba8b89 gc_3296 r_C0 b_iM_hasCourt.1).elim
      exact key_n_3295 (((2147483647 - (0 : Int32).toInt).toNat) + 1) 0 0 _ _ _  ⟨(om_b1de7dbe kc_0), (om_daf17c64 kc_0)⟩ (Nat.lt_add_one _) hP hD hS hl
    · skip
      have gc_3292 := ti_ne c_3292 rfl kc_0
      exact (om_c9ba8b89 gc_3292 r_C0 b_iM_hasCourt.1).elim
  · skip
    refine va_get (D := (dC, dI)) (ci := 7) (v := .int iM_hasCourt) (C := RX7) (T := TX7) (N := 48) hx hb hts inX7 hown hK hP 0 rfl rfl 14 (by decide) (hts _ wd_385) (fun _ h9 => h9) rfl dX7_led_3 ?_
    have rg_iM_hasCourt := fb_rng iM_hasCourt
    refine lv_if_eq (tgt := 16) hx hb dX7_led_6 (by decide) (fun c_3297 => ?_) (fun c_3297 => ?_)
    · skip
      have gc_3297 := ti_eq c_3297 rfl kc_0
      exact ((om_9887bb99 r_C1.1 gc_3297)).elim
    · skip
      have gc_3297 := ti_ne c_3297 rfl kc_0
      refine lv_aload_n hx hb dX7_led_9 rfl (lv_at hl 1 rfl) ?_
      have hFc := va_freeI hD hS hA
      refine va_calli (va_runV (As := []) (rest := []) ⟨hx, hb, hml, hown, hts⟩ (tX7_heardSet l dC dI _ oM iM_thrown rM_tape iM_taped iM_size iM_at iM_end iM_token iM_whole iM_nameSize iM_fault iM_place iM_trouble rM_letters iM_failed iM_hasCourt rM_r fM_r kM_r rM_fresh rM_told fM_told kM_told rM_read rM_st fM_st kM_st rM_undone rM_kept iM_undos iM_images rM_fresher iM_fresherSize iM_scale iM_night rM_heardRow fM_heardRow kM_heardRow rM_cutRow fM_cutRow kM_cutRow iM_breaths iM_cutMany iM_allBreaths rM_trial rM_words iM_fewestBreaths iM_orderMany iM_orderSum iM_leastOrder rM_often iM_setMany iM_someOf iM_allOf iM_allWeight iM_enoughWeight iM_worthSum iM_firstRest iM_leastDrawn b_iM_taped b_iM_size b_iM_end b_iM_failed b_iM_hasCourt b_iM_undos b_iM_images b_iM_scale b_iM_breaths b_iM_cutMany (by assumption) (by assumption) (by assumption) (by assumption) (by assumption) ⟨r_C1.2.2.1, r_C1.2.2.2⟩) (cwV 0 hts (wd_V wd_808 wd_809 wd_810 wd_5 (wd_c wd_811)) rfl rfl rfl dv_yX7_heardSet_0 ⟨Nat.le_of_ble_eq_true rfl, Nat.le_of_ble_eq_true rfl⟩) ⟨Pw.fb, recvX7 hK hP (q0 := 0) rfl, fun U hU hW => Pw.to hP hD hK hE hS hFc hU hW⟩ rfl rfl hl.1 rfl (lv_room (Nat.le_of_ble_eq_true rfl)) dX7_led_10 ⟨Nat.le_of_ble_eq_true rfl, Nat.le_of_ble_eq_true rfl⟩) hS (fun q _ h => hFc q h) hFc (fun r u t H locs ht hvm hw hB hz1 hk1 hS => ?_)
      have hru9 := hw.2
      have hw := hw.1
      refine ex_4_3 hB (fun x_3298 x_3299 f_3300 f_3301 b_x_3298 b_x_3299 e_x_3298_0 hB => ?_)
      obtain ⟨hP, hD⟩ := Bw.goA (ws' := [(oc7 oM iM_thrown rM_tape iM_taped iM_size iM_at iM_end iM_token iM_whole iM_nameSize iM_fault iM_place iM_trouble rM_letters iM_failed iM_hasCourt rM_r rM_fresh rM_told rM_read rM_st rM_undone rM_kept iM_undos iM_images rM_fresher iM_fresherSize iM_scale iM_night rM_heardRow rM_cutRow x_3298 x_3299 iM_allBreaths rM_trial rM_words iM_fewestBreaths iM_orderMany iM_orderSum iM_leastOrder rM_often iM_setMany iM_someOf iM_allOf iM_allWeight iM_enoughWeight iM_worthSum iM_firstRest iM_leastDrawn), (arI rM_r kM_r 287 fM_r), (arI rM_told kM_told 90 fM_told), (arI rM_st kM_st 90 fM_st), (arI rM_heardRow kM_heardRow 400 f_3300), (arI rM_cutRow kM_cutRow 800 f_3301)]) hB rfl ht hFc rfl
      clear hz1 hk1 hvm ht hB
      have rg_x_3298 := fb_rng x_3298
      have rg_x_3299 := fb_rng x_3299
      obtain ⟨x_3302, rfl⟩ : ∃ z, z = r := ⟨_, rfl⟩
      have rg_x_3302 := fb_rng x_3302
      refine lv_goto (tgt := 17) hx hb dX7_led_13 (by decide) ?_
      refine lv_istore_n (lv' := [(3, .int x_3302), (2, .int 0), (0, .ref oM), (1, .int p0)]) hx hb dX7_led_17 rfl hl (by decide) rfl (fun ls hl => ?_)
      refine lv_iconst (v := 0) hx hb dX7_led_18 (by decide) ?_
      refine lv_istore (lv' := [(4, .int 0), (3, .int x_3302), (2, .int 0), (0, .ref oM), (1, .int p0)]) hx hb dX7_led_19 hl (by decide) rfl (fun ls hl => ?_)
      have hl := lv_sub hl (l' := [(4, .int 0), (3, .int x_3302), (2, .int 0), (0, .ref oM), (1, .int p0)]) [0, 1, 2, 3, 4] rfl
      have key_n_3305 : ∀ (n_3305 : Nat) (z_3303 : Int32) (z_3304 : Int32) (H : Heap) (locs : List Loc) (ls : Array Slot), (0 ≤ z_3303.toInt ∧ z_3303.toInt ≤ 2147483647) → (2147483647 - z_3303.toInt).toNat < n_3305 → va_P (dC, dI) vwCl [(oc7 oM iM_thrown rM_tape iM_taped iM_size iM_at iM_end iM_token iM_whole iM_nameSize iM_fault iM_place iM_trouble rM_letters iM_failed iM_hasCourt rM_r rM_fresh rM_told rM_read rM_st rM_undone rM_kept iM_undos iM_images rM_fresher iM_fresherSize iM_scale iM_night rM_heardRow rM_cutRow x_3298 x_3299 iM_allBreaths rM_trial rM_words iM_fewestBreaths iM_orderMany iM_orderSum iM_leastOrder rM_often iM_setMany iM_someOf iM_allOf iM_allWeight iM_enoughWeight iM_worthSum iM_firstRest iM_leastDrawn), (arI rM_r kM_r 287 fM_r), (arI rM_told kM_told 90 fM_told), (arI rM_st kM_st 90 fM_st), (arI rM_heardRow kM_heardRow 400 f_3300), (arI rM_cutRow kM_cutRow 800 f_3301)] H → va_D A [(oc7 oM iM_thrown rM_tape iM_taped iM_size iM_at iM_end iM_token iM_whole iM_nameSize iM_fault iM_place iM_trouble rM_letters iM_failed iM_hasCourt rM_r rM_fresh rM_told rM_read rM_st rM_undone rM_kept iM_undos iM_images rM_fresher iM_fresherSize iM_scale iM_night rM_heardRow rM_cutRow x_3298 x_3299 iM_allBreaths rM_trial rM_words iM_fewestBreaths iM_orderMany iM_orderSum iM_leastOrder rM_often iM_setMany iM_someOf iM_allOf iM_allWeight iM_enoughWeight iM_worthSum iM_firstRest iM_leastDrawn), (arI rM_r kM_r 287 fM_r), (arI rM_told kM_told 90 fM_told), (arI rM_st kM_st 90 fM_st), (arI rM_heardRow kM_heardRow 400 f_3300), (arI rM_cutRow kM_cutRow 800 f_3301)] → va_S A s.heap H locs → lv_has ls 5 [(4, .int z_3303), (3, .int x_3302), (2, .int z_3304), (0, .ref oM), (1, .int p0)] → W p l e (headSpec (Cond.code yX7_led cX7_led 5 (some .int) :: wG) ({ frames := 23, cells := 0, slots := 0, locals := 647 })).room s m ([.ref oM, .int p0] : List Value).toArray below meth c H locs 0 0 (MQ below (va_Qi (fun (r : Int32) (_ : Nat) => True ∧ True) (fun (_ : Nat) (t : State) => ∃ (niM_thrown : Int32) (niM_breaths : Int32) (niM_cutMany : Int32) (nfM_heardRow : Nat → Int32) (nfM_cutRow : Nat → Int32), (0 ≤ niM_thrown.toInt ∧ niM_thrown.toInt ≤ 1) ∧ (0 ≤ niM_breaths.toInt ∧ niM_breaths.toInt ≤ 399) ∧ (0 ≤ niM_cutMany.toInt ∧ niM_cutMany.toInt ≤ 399) ∧ Bw dC dI A [(oc7 oM niM_thrown rM_tape iM_taped iM_size iM_at iM_end iM_token iM_whole iM_nameSize iM_fault iM_place iM_trouble rM_letters iM_failed iM_hasCourt rM_r rM_fresh rM_told rM_read rM_st rM_undone rM_kept iM_undos iM_images rM_fresher iM_fresherSize iM_scale iM_night rM_heardRow rM_cutRow niM_breaths niM_cutMany iM_allBreaths rM_trial rM_words iM_fewestBreaths iM_orderMany iM_orderSum iM_leastOrder rM_often iM_setMany iM_someOf iM_allOf iM_allWeight iM_enoughWeight iM_worthSum iM_firstRest iM_leastDrawn), (arI rM_r kM_r 287 fM_r), (arI rM_told kM_told 90 fM_told), (arI rM_st kM_st 90 fM_st), (arI rM_heardRow kM_heardRow 400 nfM_heardRow), (arI rM_cutRow kM_cutRow 800 nfM_cutRow)] [(kM_r, .int), (kM_told, .int), (kM_st, .int), (kM_heardRow, .int), (kM_cutRow, .int)] t) A) ([.ref oM, .int p0] : List Value).toArray s 0 0 A) (F0 m 21 ls []) := by
        intro n_3305
        induction n_3305 with
        | zero => intro z_3303 z_3304 H locs ls hi0_n_3305 hm; exact absurd hm (Nat.not_lt_zero _)
        | succ n_3305 ih_n_3305 =>
          intro z_3303 z_3304 H locs ls hi0_n_3305 hm_n_3305 hP hD hS hl
          have rg_z_3303 := fb_rng z_3303
          have rg_z_3304 := fb_rng z_3304
          refine lv_aload_n hx hb dX7_led_21 rfl (lv_at hl 3 rfl) ?_
          refine va_get (D := (dC, dI)) (ci := 7) (v := .int iM_hasCourt) (C := RX7) (T := TX7) (N := 48) hx hb hts inX7 hown hK hP 0 rfl rfl 14 (by decide) (hts _ wd_385) (fun _ h9 => h9) rfl dX7_led_22 ?_
          refine lv_if_eq (tgt := 86) hx hb dX7_led_25 (by decide) (fun c_3306 => ?_) (fun c_3306 => ?_)
          · skip
            have gc_3306 := ti_eq c_3306 rfl kc_0
            exact ((om_9887bb99 r_C1.1 gc_3306)).elim
          · skip
            have gc_3306 := ti_ne c_3306 rfl kc_0
            refine lv_iload hx hb dX7_led_28 (lv_at hl 0 rfl) ?_
            refine lv_aload_n hx hb dX7_led_30 rfl (lv_at hl 3 rfl) ?_
            refine va_get (D := (dC, dI)) (ci := 7) (v := .ref rM_r) (C := RX7) (T := TX7) (N := 48) hx hb hts inX7 hown hK hP 0 rfl rfl 15 (by decide) (hts _ wd_155) (fun _ h9 => h9) rfl dX7_led_31 ?_
            refine lv_iconst (v := 1) hx hb dX7_led_34 (by decide) ?_
            refine va_iald hx hb hK hP 1 0 rfl rfl (by unfold vp_in; decide) dX7_led_35 ?_
            refine lv_topi (fun x_3307 ex_3307 => ?_)
            have rg_x_3307 := fb_rng x_3307
            have cx_3307 : (fM_r 1).toInt = x_3307.toInt := congrArg Int32.toInt (show fM_r 1 = x_3307 from ex_3307.symm)
            have sx_3307 := r_R.nodes
            refine lv_icmp_ge (tgt := 86) hx hb dX7_led_36 (by decide) (fun c_3308 => ?_) (fun c_3308 => ?_)
            · skip
              have gc_3308 := ti_le c_3308 rfl rfl
              refine lv_aload_n hx hb dX7_led_86 rfl (lv_at hl 3 rfl) ?_
              refine lv_iconst (v := 1) hx hb dX7_led_87 (by decide) ?_
              refine va_put (D := (dC, dI)) (ci := 7) (v := .int 1) (ty := .int) (C := RX7) (T := TX7) (N := 48) hx hb hts inX7 tyX7 tyX7_ok nmX7 hown hK hP hD hS 0 rfl rfl 0 (by decide) (hts _ wd_184) (fun _ h9 => h9) rfl (by decide +kernel) rfl rfl (Nat.le_of_ble_eq_true rfl) dX7_led_88 (fun H locs hP hD hS => ?_)
              obtain ⟨hP, hD⟩ := wl2 (ws' := [(oc7 oM 1 rM_tape iM_taped iM_size iM_at iM_end iM_token iM_whole iM_nameSize iM_fault iM_place iM_trouble rM_letters iM_failed iM_hasCourt rM_r rM_fresh rM_told rM_read rM_st rM_undone rM_kept iM_undos iM_images rM_fresher iM_fresherSize iM_scale iM_night rM_heardRow rM_cutRow x_3298 x_3299 iM_allBreaths rM_trial rM_words iM_fewestBreaths iM_orderMany iM_orderSum iM_leastOrder rM_often iM_setMany iM_someOf iM_allOf iM_allWeight iM_enoughWeight iM_worthSum iM_firstRest iM_leastDrawn), (arI rM_r kM_r 287 fM_r), (arI rM_told kM_told 90 fM_told), (arI rM_st kM_st 90 fM_st), (arI rM_heardRow kM_heardRow 400 f_3300), (arI rM_cutRow kM_cutRow 800 f_3301)]) hP hD rfl
              refine lv_iconst (v := 0) hx hb dX7_led_91 (by decide) ?_
              exact wq_i hx hb hr 0 ⟨trivial, trivial⟩ (fun t ht hW => ⟨1, x_3298, x_3299, f_3300, f_3301, (by decide), b_x_3298, b_x_3299, Bw.to hP hD hK ht hW⟩) hS dX7_led_92 hlocks
            · skip
              have gc_3308 := ti_nle c_3308 rfl rfl
              refine lv_aload_n hx hb dX7_led_39 rfl (lv_at hl 3 rfl) ?_
              refine va_get (D := (dC, dI)) (ci := 7) (v := .ref rM_r) (C := RX7) (T := TX7) (N := 48) hx hb hts inX7 hown hK hP 0 rfl rfl 15 (by decide) (hts _ wd_155) (fun _ h9 => h9) rfl dX7_led_40 ?_
              refine lv_bipush (v := 9) hx hb dX7_led_43 (by decide) ?_
              refine lv_iload hx hb dX7_led_45 (lv_at hl 0 rfl) ?_
              refine lv_iadd hx hb dX7_led_47 ?_
              refine lv_topi (fun x_3309 ex_3309 => ?_)
              have vx_3309 : x_3309.toInt = z_3303.toInt + 9 := om_296ce4dd (ti_add ex_3309 kc_9 rfl (om_090bbef4 hi0_n_3305.1) (om_a45db860 s_nodes.2 cx_3307 gc_3308))
              refine va_iald hx hb hK hP 1 0 rfl rfl (ti_in vx_3309 (om_edbe2e4c hi0_n_3305.1) (om_9da1971f s_nodes.2 cx_3307 gc_3308)) dX7_led_48 ?_
              refine lv_topi (fun x_3310 ex_3310 => ?_)
              have rg_x_3310 := fb_rng x_3310
              have kx_3310 : (fM_r x_3309.toNatClampNeg).toInt = x_3310.toInt := by rw [ex_3310]
              have cx_3310 : (fM_r (9 + z_3303.toNatClampNeg)).toInt = x_3310.toInt := by rw [show 9 + z_3303.toNatClampNeg = x_3309.toNatClampNeg from (om_32f1c3e7 (ti_cl (x := z_3303) rfl hi0_n_3305.1) (ti_cl (x := x_3309) vx_3309 (om_edbe2e4c hi0_n_3305.1)))]; exact kx_3310
              have sx_3310 := r_R.kind x_3309.toNatClampNeg (om_462cc4af (ti_cl (x := x_3309) vx_3309 (om_edbe2e4c hi0_n_3305.1)) hi0_n_3305.1) (om_19da1274 (ti_cl (x := x_3309) vx_3309 (om_edbe2e4c hi0_n_3305.1)) s_nodes.2 cx_3307 gc_3308)
              refine lv_if_ne (tgt := 80) hx hb dX7_led_49 (by decide) (fun c_3311 => ?_) (fun c_3311 => ?_)
              · skip
                have gc_3311 := ti_ne c_3311 rfl kc_0
                obtain ⟨x_3312, ex_3312⟩ : ∃ z : Int32, z = z_3303 + Int32.ofInt 1 := ⟨_, rfl⟩
                have vx_3312 : x_3312.toInt = z_3303.toInt + 1 := ti_add (y := 1) ex_3312 rfl kc_1 (om_4e4fce7e hi0_n_3305.1) (om_83bd38f8 s_nodes.2 cx_3307 gc_3308)
                refine lv_iinc (v := x_3312) (lv' := [(4, .int x_3312), (3, .int x_3302), (2, .int z_3304), (0, .ref oM), (1, .int p0)]) hx hb dX7_led_80 hl (k := 0) rfl ex_3312.symm (by decide) rfl (fun ls hl => ?_)
                refine lv_goto (tgt := 21) hx hb dX7_led_83 (by decide) ?_
                exact ih_n_3305 x_3312 z_3304 _ _ _  ⟨(om_83b90de5 hi0_n_3305.1 vx_3312), (om_3052bbb6 s_nodes.2 cx_3307 gc_3308 vx_3312)⟩ (ms_lt hm_n_3305 (om_b9393183 vx_3312) (om_5f9db36c s_nodes.2 cx_3307 gc_3308)) hP hD hS (lv_sub hl [0, 1, 2, 3, 4] rfl)
              · skip
                have gc_3311 := ti_eq c_3311 rfl kc_0
                refine lv_iload_n hx hb dX7_led_52 rfl (lv_at hl 1 rfl) ?_
                refine lv_iload hx hb dX7_led_53 (lv_at hl 0 rfl) ?_
                have hFc : ∀ q, va_A [] _ q → A q := fun q h => hA q (Nat.le_trans hS.1 (va_nilA h))
                refine va_calli (va_runS (As := [.int x_3302, .int z_3303]) (rest := []) ⟨hx, hb, hml, hown, hts⟩ (tX7_hasBit l dC dI _ x_3302 z_3303 ) (va_cwS 2 hts (wd_S wd_968 wd_969 wd_5 (wd_c wd_970)) rfl rfl rfl ds_yX7_hasBit_2 ⟨Nat.le_of_ble_eq_true rfl, Nat.le_of_ble_eq_true rfl⟩) ⟨Pw.fb, fun U hU hW => Pn.to hK hE hS hA hU hW⟩ rfl rfl hl.1 rfl (lv_room (Nat.le_of_ble_eq_true rfl)) dX7_led_55 ⟨Nat.le_of_ble_eq_true rfl, Nat.le_of_ble_eq_true rfl⟩) hS (fun q _ h => hFc q h) hFc (fun r u t H locs ht hvm hw hB hz1 hk1 hS => ?_)
                obtain ⟨hP, hD, hK⟩ := Bw.same ht hvm hP hD hK hk1 hFc
                clear hz1 hk1 hvm ht hB
                have hq9 := hw.2
                have hw := hw.1
                obtain ⟨x_3313, rfl⟩ : ∃ z, z = r := ⟨_, rfl⟩
                have rg_x_3313 := fb_rng x_3313
                have bx_3313 := hw.1
                have dx_3313 := bz_tb bx_3313
                refine lv_if_eq (tgt := 64) hx hb dX7_led_58 (by decide) (fun c_3314 => ?_) (fun c_3314 => ?_)
                · skip
                  have gc_3314 := ti_eq c_3314 rfl kc_0
                  refine lv_iload_n hx hb dX7_led_64 rfl (lv_at hl 2 rfl) ?_
                  refine lv_iload_n hx hb dX7_led_65 rfl (lv_at hl 4 rfl) ?_
                  refine lv_icmp_ne (tgt := 77) hx hb dX7_led_66 (by decide) (fun c_3315 => ?_) (fun c_3315 => ?_)
                  · skip
                    have gc_3315 := ti_ne c_3315 rfl rfl
                    obtain ⟨x_3316, ex_3316⟩ : ∃ z : Int32, z = z_3304 + Int32.ofInt 1 := ⟨_, rfl⟩
                    have rg_x_3316 := fb_rng x_3316
                    refine lv_iinc (v := x_3316) (lv' := [(2, .int x_3316), (4, .int z_3303), (3, .int x_3302), (0, .ref oM), (1, .int p0)]) hx hb dX7_led_77 hl (k := 2) rfl ex_3316.symm (by decide) rfl (fun ls hl => ?_)
                    obtain ⟨x_3317, ex_3317⟩ : ∃ z : Int32, z = z_3303 + Int32.ofInt 1 := ⟨_, rfl⟩
                    have vx_3317 : x_3317.toInt = z_3303.toInt + 1 := ti_add (y := 1) ex_3317 rfl kc_1 (om_4e4fce7e hi0_n_3305.1) (om_83bd38f8 s_nodes.2 cx_3307 gc_3308)
                    refine lv_iinc (v := x_3317) (lv' := [(4, .int x_3317), (2, .int x_3316), (3, .int x_3302), (0, .ref oM), (1, .int p0)]) hx hb dX7_led_80 hl (k := 1) rfl ex_3317.symm (by decide) rfl (fun ls hl => ?_)
                    refine lv_goto (tgt := 21) hx hb dX7_led_83 (by decide) ?_
                    exact ih_n_3305 x_3317 x_3316 _ _ _  ⟨(om_83b90de5 hi0_n_3305.1 vx_3317), (om_3052bbb6 s_nodes.2 cx_3307 gc_3308 vx_3317)⟩ (ms_lt hm_n_3305 (om_b9393183 vx_3317) (om_5f9db36c s_nodes.2 cx_3307 gc_3308)) hP hD hS (lv_sub hl [0, 2, 1, 3, 4] rfl)
                  · skip
                    have gc_3315 := ti_eq c_3315 rfl rfl
                    refine lv_aload_n hx hb dX7_led_69 rfl (lv_at hl 3 rfl) ?_
                    refine lv_iconst (v := 0) hx hb dX7_led_70 (by decide) ?_
                    refine va_put (D := (dC, dI)) (ci := 7) (v := .int 0) (ty := .int) (C := RX7) (T := TX7) (N := 48) hx hb hts inX7 tyX7 tyX7_ok nmX7 hown hK hP hD hS 0 rfl rfl 0 (by decide) (hts _ wd_184) (fun _ h9 => h9) rfl (by decide +kernel) rfl rfl (Nat.le_of_ble_eq_true rfl) dX7_led_71 (fun H locs hP hD hS => ?_)
                    obtain ⟨hP, hD⟩ := wl2 (ws' := [(oc7 oM 0 rM_tape iM_taped iM_size iM_at iM_end iM_token iM_whole iM_nameSize iM_fault iM_place iM_trouble rM_letters iM_failed iM_hasCourt rM_r rM_fresh rM_told rM_read rM_st rM_undone rM_kept iM_undos iM_images rM_fresher iM_fresherSize iM_scale iM_night rM_heardRow rM_cutRow x_3298 x_3299 iM_allBreaths rM_trial rM_words iM_fewestBreaths iM_orderMany iM_orderSum iM_leastOrder rM_often iM_setMany iM_someOf iM_allOf iM_allWeight iM_enoughWeight iM_worthSum iM_firstRest iM_leastDrawn), (arI rM_r kM_r 287 fM_r), (arI rM_told kM_told 90 fM_told), (arI rM_st kM_st 90 fM_st), (arI rM_heardRow kM_heardRow 400 f_3300), (arI rM_cutRow kM_cutRow 800 f_3301)]) hP hD rfl
                    refine lv_iload hx hb dX7_led_74 (lv_at hl 0 rfl) ?_
                    exact wq_i hx hb hr 0 ⟨trivial, trivial⟩ (fun t ht hW => ⟨0, x_3298, x_3299, f_3300, f_3301, (by decide), b_x_3298, b_x_3299, Bw.to hP hD hK ht hW⟩) hS dX7_led_76 hlocks
                · skip
                  have gc_3314 := ti_ne c_3314 rfl kc_0
                  refine lv_goto (tgt := 80) hx hb dX7_led_61 (by decide) ?_
                  obtain ⟨x_3318, ex_3318⟩ : ∃ z : Int32, z = z_3303 + Int32.ofInt 1 := ⟨_, rfl⟩
                  have vx_3318 : x_3318.toInt = z_3303.toInt + 1 := ti_add (y := 1) ex_3318 rfl kc_1 (om_4e4fce7e hi0_n_3305.1) (om_83bd38f8 s_nodes.2 cx_3307 gc_3308)
                  refine lv_iinc (v := x_3318) (lv' := [(4, .int x_3318), (3, .int x_3302), (2, .int z_3304), (0, .ref oM), (1, .int p0)]) hx hb dX7_led_80 hl (k := 0) rfl ex_3318.symm (by decide) rfl (fun ls hl => ?_)
                  refine lv_goto (tgt := 21) hx hb dX7_led_83 (by decide) ?_
                  exact ih_n_3305 x_3318 z_3304 _ _ _  ⟨(om_83b90de5 hi0_n_3305.1 vx_3318), (om_3052bbb6 s_nodes.2 cx_3307 gc_3308 vx_3318)⟩ (ms_lt hm_n_3305 (om_b9393183 vx_3318) (om_5f9db36c s_nodes.2 cx_3307 gc_3308)) hP hD hS (lv_sub hl [0, 1, 2, 3, 4] rfl)
      exact key_n_3305 (((2147483647 - (0 : Int32).toInt).toNat) + 1) 0 0 _ _ _  ⟨(om_b1de7dbe kc_0), (om_daf17c64 kc_0)⟩ (Nat.lt_add_one _) hP hD hS hl
