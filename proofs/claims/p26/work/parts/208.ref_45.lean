set_option maxHeartbeats 4000000 in
set_option maxRecDepth 100000 in
theorem tX7_weightsOf_x (l : Launch) (dC : Nat → ClassId) (dI : Nat → Nat → Nat) (sz : Nat) (oM : Nat) (iM_thrown : Int32) (rM_tape : Nat) (iM_taped : Int32) (iM_size : Int32) (iM_at : Int32) (iM_end : Int32) (iM_token : Int32) (iM_whole : Int32) (iM_nameSize : Int32) (iM_fault : Int32) (iM_place : Int32) (iM_trouble : Int32) (rM_letters : Nat) (iM_failed : Int32) (iM_hasCourt : Int32) (rM_r : Nat) (fM_r : Nat → Int32) (kM_r : ClassId) (rM_fresh : Nat) (rM_told : Nat) (rM_read : Nat) (rM_st : Nat) (rM_undone : Nat) (rM_kept : Nat) (iM_undos : Int32) (iM_images : Int32) (rM_fresher : Nat) (iM_fresherSize : Int32) (iM_scale : Int32) (iM_night : Int32) (rM_heardRow : Nat) (rM_cutRow : Nat) (iM_breaths : Int32) (iM_cutMany : Int32) (iM_allBreaths : Int32) (rM_trial : Nat) (rM_words : Nat) (iM_fewestBreaths : Int32) (iM_orderMany : Int32) (iM_orderSum : Int32) (iM_leastOrder : Int32) (rM_often : Nat) (iM_setMany : Int32) (iM_someOf : Int32) (iM_allOf : Int32) (iM_allWeight : Int64) (iM_enoughWeight : Int64) (iM_worthSum : Int64) (iM_firstRest : Int32) (iM_leastDrawn : Int32) (p0 : Int32) (b_iM_taped : 0 ≤ iM_taped.toInt ∧ iM_taped.toInt ≤ 900) (b_iM_size : 0 ≤ iM_size.toInt ∧ iM_size.toInt ≤ 900) (b_iM_end : 0 ≤ iM_end.toInt ∧ iM_end.toInt ≤ 900) (b_iM_failed : 0 ≤ iM_failed.toInt ∧ iM_failed.toInt ≤ 1) (b_iM_hasCourt : 0 ≤ iM_hasCourt.toInt ∧ iM_hasCourt.toInt ≤ 1) (b_iM_undos : 0 ≤ iM_undos.toInt ∧ iM_undos.toInt ≤ 16) (b_iM_images : 0 ≤ iM_images.toInt ∧ iM_images.toInt ≤ 3) (b_iM_scale : 1 ≤ iM_scale.toInt ∧ iM_scale.toInt ≤ 1296) (b_iM_breaths : 0 ≤ iM_breaths.toInt ∧ iM_breaths.toInt ≤ 399) (b_iM_cutMany : 0 ≤ iM_cutMany.toInt ∧ iM_cutMany.toInt ≤ 399) (r_R : ROk fM_r) (r_C : iM_hasCourt.toInt ≤ 0 ∨ (1 ≤ (fM_r 1).toInt ∧ 0 ≤ (fM_r 6).toInt ∧ (fM_r 6).toInt < (fM_r 1).toInt)) (hk0 : 0 ≤ p0.toInt ∧ p0.toInt < (fM_r 1).toInt) (hk3 : (fM_r (9 + p0.toNatClampNeg)).toInt = 3) : Met l yX7_weightsOf (Cond.code yX7_weightsOf cX7_weightsOf 4 (some .int) :: wG) ({ frames := 0, cells := 0, slots := 0, locals := 0 }) (va_Pc [.ref oM, .int p0] (Pw dC dI sz [(oc7 oM iM_thrown rM_tape iM_taped iM_size iM_at iM_end iM_token iM_whole iM_nameSize iM_fault iM_place iM_trouble rM_letters iM_failed iM_hasCourt rM_r rM_fresh rM_told rM_read rM_st rM_undone rM_kept iM_undos iM_images rM_fresher iM_fresherSize iM_scale iM_night rM_heardRow rM_cutRow iM_breaths iM_cutMany iM_allBreaths rM_trial rM_words iM_fewestBreaths iM_orderMany iM_orderSum iM_leastOrder rM_often iM_setMany iM_someOf iM_allOf iM_allWeight iM_enoughWeight iM_worthSum iM_firstRest iM_leastDrawn), (arI rM_r kM_r 287 fM_r)] [(kM_r, .int)])) (va_Qi (fun (r : Int32) (_ : Nat) => (True ∧ ((1 ≤ r.toInt ∧ r.toInt ≤ 36) ∧ r = sum32 (fun i => fM_r (45 + 4 * p0.toNatClampNeg + i)) (fM_r (27 + p0.toNatClampNeg)).toInt.toNat)) ∧ PX7_weightsOf fM_r p0 = r) (fun (_ : Nat) (t : State) => Bw dC dI (va_A [(oc7 oM iM_thrown rM_tape iM_taped iM_size iM_at iM_end iM_token iM_whole iM_nameSize iM_fault iM_place iM_trouble rM_letters iM_failed iM_hasCourt rM_r rM_fresh rM_told rM_read rM_st rM_undone rM_kept iM_undos iM_images rM_fresher iM_fresherSize iM_scale iM_night rM_heardRow rM_cutRow iM_breaths iM_cutMany iM_allBreaths rM_trial rM_words iM_fewestBreaths iM_orderMany iM_orderSum iM_leastOrder rM_often iM_setMany iM_someOf iM_allOf iM_allWeight iM_enoughWeight iM_worthSum iM_firstRest iM_leastDrawn), (arI rM_r kM_r 287 fM_r)] sz) [(oc7 oM iM_thrown rM_tape iM_taped iM_size iM_at iM_end iM_token iM_whole iM_nameSize iM_fault iM_place iM_trouble rM_letters iM_failed iM_hasCourt rM_r rM_fresh rM_told rM_read rM_st rM_undone rM_kept iM_undos iM_images rM_fresher iM_fresherSize iM_scale iM_night rM_heardRow rM_cutRow iM_breaths iM_cutMany iM_allBreaths rM_trial rM_words iM_fewestBreaths iM_orderMany iM_orderSum iM_leastOrder rM_often iM_setMany iM_someOf iM_allOf iM_allWeight iM_enoughWeight iM_worthSum iM_firstRest iM_leastDrawn), (arI rM_r kM_r 287 fM_r)] [(kM_r, .int)] t) (va_A [(oc7 oM iM_thrown rM_tape iM_taped iM_size iM_at iM_end iM_token iM_whole iM_nameSize iM_fault iM_place iM_trouble rM_letters iM_failed iM_hasCourt rM_r rM_fresh rM_told rM_read rM_st rM_undone rM_kept iM_undos iM_images rM_fresher iM_fresherSize iM_scale iM_night rM_heardRow rM_cutRow iM_breaths iM_cutMany iM_allBreaths rM_trial rM_words iM_fewestBreaths iM_orderMany iM_orderSum iM_leastOrder rM_often iM_setMany iM_someOf iM_allOf iM_allWeight iM_enoughWeight iM_worthSum iM_firstRest iM_leastDrawn), (arI rM_r kM_r 287 fM_r)] sz)) 0 0 (va_A [(oc7 oM iM_thrown rM_tape iM_taped iM_size iM_at iM_end iM_token iM_whole iM_nameSize iM_fault iM_place iM_trouble rM_letters iM_failed iM_hasCourt rM_r rM_fresh rM_told rM_read rM_st rM_undone rM_kept iM_undos iM_images rM_fresher iM_fresherSize iM_scale iM_night rM_heardRow rM_cutRow iM_breaths iM_cutMany iM_allBreaths rM_trial rM_words iM_fewestBreaths iM_orderMany iM_orderSum iM_leastOrder rM_often iM_setMany iM_someOf iM_allOf iM_allWeight iM_enoughWeight iM_worthSum iM_firstRest iM_leastDrawn), (arI rM_r kM_r 287 fM_r)] sz) := by
  refine Met.ofW (cc := cX7_weightsOf) (maxL := 4) (ret := (some .int)) (by decide) rfl ?_
  intro p e s m args below meth c s₁ B hml hv
  obtain ⟨rfl, hsz, hP, hK, hD0, hE⟩ := hv
  have hx := B.exec
  have hb := B.bytes
  have hr := B.returns
  have hts : ∀ w ∈ wG, w.before ([.ref oM, .int p0] : List Value).toArray s = true := fun w h => atoms_spec (ws := Cond.code yX7_weightsOf cX7_weightsOf 4 (some .int) :: wG) B.pre w (List.mem_cons_of_mem _ h)
  have hown : s.vm.findClass RX7 = some m.cls := findClass_of_methodNamed B.named
  have hlocks := B.notSynchronized
  subst hsz
  have hD := hD0.self (sz := s.heap.size)
  generalize hAe : va_A [(oc7 oM iM_thrown rM_tape iM_taped iM_size iM_at iM_end iM_token iM_whole iM_nameSize iM_fault iM_place iM_trouble rM_letters iM_failed iM_hasCourt rM_r rM_fresh rM_told rM_read rM_st rM_undone rM_kept iM_undos iM_images rM_fresher iM_fresherSize iM_scale iM_night rM_heardRow rM_cutRow iM_breaths iM_cutMany iM_allBreaths rM_trial rM_words iM_fewestBreaths iM_orderMany iM_orderSum iM_leastOrder rM_often iM_setMany iM_someOf iM_allOf iM_allWeight iM_enoughWeight iM_worthSum iM_firstRest iM_leastDrawn), (arI rM_r kM_r 287 fM_r)] s.heap.size = A at hD hE ⊢
  have hA : ∀ q : Nat, s.heap.size ≤ q → A q := fun q h => by rw [← hAe]; exact Or.inr h
  have hS : va_S A s.heap s.heap [] := va_S.rf
  have hl := lv_entry ([.ref oM, .int p0]) (n := 4) (Nat.le_of_ble_eq_true rfl)
  rw [lg_entry_eq]
  generalize (lg_sl ([.ref oM, .int p0]) ++ List.replicate (4 - (lg_sl ([.ref oM, .int p0])).length) Slot.unset).toArray = ls at hl ⊢
  have hl : lv_has ls 4 [(0, .ref oM), (1, .int p0)] := hl
  have hG := PX7_weightsOf_eq fM_r p0
  have s_slips := r_R.slips
  have s_nodes := r_R.nodes
  have s_uns := r_R.uns
  have q_p0 := ti_cl (x := p0) rfl (by omega)
  have mn_p0 := r_R.many (27 + p0.toNatClampNeg) (by omega) (by omega)
  have kn_p0 := r_R.kind (9 + p0.toNatClampNeg) (by omega) (by omega)
  have in_p0 := r_R.inner p0.toNatClampNeg (by omega)
  have ix_p0 : 1 ≤ (fM_r (27 + p0.toNatClampNeg)).toInt := in_p0 (by omega)
  refine lv_iconst (v := 0) hx hb dX7_weightsOf_0 (by decide) ?_
  refine lv_istore_n (lv' := [(2, .int 0), (0, .ref oM), (1, .int p0)]) hx hb dX7_weightsOf_1 rfl hl (by decide) rfl (fun ls hl => ?_)
  refine lv_iconst (v := 0) hx hb dX7_weightsOf_2 (by decide) ?_
  refine lv_istore_n (lv' := [(3, .int 0), (2, .int 0), (0, .ref oM), (1, .int p0)]) hx hb dX7_weightsOf_3 rfl hl (by decide) rfl (fun ls hl => ?_)
  have hl := lv_sub hl (l' := [(3, .int 0), (2, .int 0), (0, .ref oM), (1, .int p0)]) [0, 1, 2, 3] rfl
  have key_n_4569 : ∀ (n_4569 : Nat) (z_4567 : Int32) (z_4568 : Int32) (H : Heap) (locs : List Loc) (ls : Array Slot), (0 ≤ z_4567.toInt ∧ z_4567.toInt ≤ 4) → (z_4567.toInt ≤ z_4568.toInt ∧ z_4568.toInt ≤ 9 * z_4567.toInt) → (z_4567.toInt ≤ (fM_r (27 + p0.toNatClampNeg)).toInt) → (z_4568 = sum32 (fun i => fM_r (45 + 4 * p0.toNatClampNeg + i)) z_4567.toNatClampNeg) → (4 - z_4567.toInt).toNat < n_4569 → (PX7_weightsOf fM_r p0 = HX7_weightsOf_0 fM_r p0 n_4569 z_4567 z_4568) → va_P (dC, dI) vwCl [(oc7 oM iM_thrown rM_tape iM_taped iM_size iM_at iM_end iM_token iM_whole iM_nameSize iM_fault iM_place iM_trouble rM_letters iM_failed iM_hasCourt rM_r rM_fresh rM_told rM_read rM_st rM_undone rM_kept iM_undos iM_images rM_fresher iM_fresherSize iM_scale iM_night rM_heardRow rM_cutRow iM_breaths iM_cutMany iM_allBreaths rM_trial rM_words iM_fewestBreaths iM_orderMany iM_orderSum iM_leastOrder rM_often iM_setMany iM_someOf iM_allOf iM_allWeight iM_enoughWeight iM_worthSum iM_firstRest iM_leastDrawn), (arI rM_r kM_r 287 fM_r)] H → va_D A [(oc7 oM iM_thrown rM_tape iM_taped iM_size iM_at iM_end iM_token iM_whole iM_nameSize iM_fault iM_place iM_trouble rM_letters iM_failed iM_hasCourt rM_r rM_fresh rM_told rM_read rM_st rM_undone rM_kept iM_undos iM_images rM_fresher iM_fresherSize iM_scale iM_night rM_heardRow rM_cutRow iM_breaths iM_cutMany iM_allBreaths rM_trial rM_words iM_fewestBreaths iM_orderMany iM_orderSum iM_leastOrder rM_often iM_setMany iM_someOf iM_allOf iM_allWeight iM_enoughWeight iM_worthSum iM_firstRest iM_leastDrawn), (arI rM_r kM_r 287 fM_r)] → va_S A s.heap H locs → lv_has ls 4 [(3, .int z_4567), (2, .int z_4568), (0, .ref oM), (1, .int p0)] → W p l e (headSpec (Cond.code yX7_weightsOf cX7_weightsOf 4 (some .int) :: wG) ({ frames := 0, cells := 0, slots := 0, locals := 0 })).room s m ([.ref oM, .int p0] : List Value).toArray below meth c H locs 0 0 (MQ below (va_Qi (fun (r : Int32) (_ : Nat) => (True ∧ ((1 ≤ r.toInt ∧ r.toInt ≤ 36) ∧ r = sum32 (fun i => fM_r (45 + 4 * p0.toNatClampNeg + i)) (fM_r (27 + p0.toNatClampNeg)).toInt.toNat)) ∧ PX7_weightsOf fM_r p0 = r) (fun (_ : Nat) (t : State) => Bw dC dI A [(oc7 oM iM_thrown rM_tape iM_taped iM_size iM_at iM_end iM_token iM_whole iM_nameSize iM_fault iM_place iM_trouble rM_letters iM_failed iM_hasCourt rM_r rM_fresh rM_told rM_read rM_st rM_undone rM_kept iM_undos iM_images rM_fresher iM_fresherSize iM_scale iM_night rM_heardRow rM_cutRow iM_breaths iM_cutMany iM_allBreaths rM_trial rM_words iM_fewestBreaths iM_orderMany iM_orderSum iM_leastOrder rM_often iM_setMany iM_someOf iM_allOf iM_allWeight iM_enoughWeight iM_worthSum iM_firstRest iM_leastDrawn), (arI rM_r kM_r 287 fM_r)] [(kM_r, .int)] t) A) ([.ref oM, .int p0] : List Value).toArray s 0 0 A) (F0 m 4 ls []) := by
    intro n_4569
    induction n_4569 with
    | zero => intro z_4567 z_4568 H locs ls hi0_n_4569 hi1_n_4569 hi2_n_4569 hi3_n_4569 hm; exact absurd hm (by omega)
    | succ n_4569 ih_n_4569 =>
      intro z_4567 z_4568 H locs ls hi0_n_4569 hi1_n_4569 hi2_n_4569 hi3_n_4569 hm hG hP hD hS hl
      have hG := hG.trans (HX7_weightsOf_0_eq _ _ _ _ _)
      refine lv_iload_n hx hb dX7_weightsOf_4 rfl (lv_at hl 0 rfl) ?_
      refine lv_aload_n hx hb dX7_weightsOf_5 rfl (lv_at hl 2 rfl) ?_
      refine va_get (D := (dC, dI)) (ci := 7) (v := .ref rM_r) (C := RX7) (T := TX7) (N := 48) hx hb hts inX7 hown hK hP 0 rfl rfl 15 (by decide) (hts _ wd_155) (fun _ h9 => h9) rfl dX7_weightsOf_6 ?_
      refine lv_bipush (v := 27) hx hb dX7_weightsOf_9 (by decide) ?_
      refine lv_iload_n hx hb dX7_weightsOf_11 rfl (lv_at hl 3 rfl) ?_
      refine lv_iadd hx hb dX7_weightsOf_12 ?_
      refine lv_topi (fun x_4570 ex_4570 => ?_)
      have hG := hG.trans (lt_eq ex_4570)
      have vx_4570 : x_4570.toInt = p0.toInt + 27 := by have q := ti_add ex_4570 kc_27 rfl (by omega) (by omega); omega
      refine va_iald hx hb hK hP 1 0 rfl rfl (ti_in vx_4570 (by omega) (by omega)) dX7_weightsOf_13 ?_
      refine lv_topi (fun x_4571 ex_4571 => ?_)
      have hG := hG.trans (lt_eq ex_4571)
      have kx_4571 : (fM_r x_4570.toNatClampNeg).toInt = x_4571.toInt := by rw [ex_4571]
      have cx_4571 : (fM_r (27 + p0.toNatClampNeg)).toInt = x_4571.toInt := by rw [show 27 + p0.toNatClampNeg = x_4570.toNatClampNeg from by have q9 := ti_cl (x := x_4570) vx_4570 (by omega); have q_p0 := ti_cl (x := p0) rfl (by omega); omega]; exact kx_4571
      have sx_4571 := r_R.many x_4570.toNatClampNeg (by have q9 := ti_cl (x := x_4570) vx_4570 (by omega); omega) (by have q9 := ti_cl (x := x_4570) vx_4570 (by omega); omega)
      refine lv_icmp_ge (tgt := 39) hx hb dX7_weightsOf_14 (by decide) (fun c_4572 => ?_) (fun c_4572 => ?_)
      · skip
        have hG := hG.trans (if_pos c_4572)
        have gc_4572 := ti_le c_4572 rfl rfl
        refine lv_iload_n hx hb dX7_weightsOf_39 rfl (lv_at hl 1 rfl) ?_
        exact W.iret hx hb hr (fun t ht hW => ⟨⟨_, 0, rfl, ⟨⟨trivial, ⟨by omega, by rw [show (fM_r (27 + p0.toNatClampNeg)).toInt.toNat = z_4567.toNatClampNeg from by have q1 := ti_cl (x := z_4567) rfl (by omega); omega]; exact hi3_n_4569⟩⟩, hG⟩, Bw.to (hP.sub [0, 1] rfl) (hD.sub [0, 1] (by decide) rfl) (hK.sub [0] rfl) ht hW⟩, hS.F ht⟩) hS.2.2 dX7_weightsOf_40
      · skip
        have hG := hG.trans (if_neg c_4572)
        have gc_4572 := ti_nle c_4572 rfl rfl
        refine lv_iload_n hx hb dX7_weightsOf_17 rfl (lv_at hl 1 rfl) ?_
        refine lv_aload_n hx hb dX7_weightsOf_18 rfl (lv_at hl 2 rfl) ?_
        refine va_get (D := (dC, dI)) (ci := 7) (v := .ref rM_r) (C := RX7) (T := TX7) (N := 48) hx hb hts inX7 hown hK hP 0 rfl rfl 15 (by decide) (hts _ wd_155) (fun _ h9 => h9) rfl dX7_weightsOf_19 ?_
        refine lv_bipush (v := 45) hx hb dX7_weightsOf_22 (by decide) ?_
        refine lv_iconst (v := 4) hx hb dX7_weightsOf_24 (by decide) ?_
        refine lv_iload_n hx hb dX7_weightsOf_25 rfl (lv_at hl 3 rfl) ?_
        refine lv_imul hx hb dX7_weightsOf_26 ?_
        refine lv_topi (fun x_4573 ex_4573 => ?_)
        have hG := hG.trans (lt_eq ex_4573)
        have vx_4573 : x_4573.toInt = 4 * p0.toInt := by have q := ti_mul ex_4573 kc_4 rfl (by omega) (by omega); omega
        refine lv_iadd hx hb dX7_weightsOf_27 ?_
        refine lv_topi (fun x_4574 ex_4574 => ?_)
        have hG := hG.trans (lt_eq ex_4574)
        have vx_4574 : x_4574.toInt = 4 * p0.toInt + 45 := by have q := ti_add ex_4574 kc_45 vx_4573 (by omega) (by omega); omega
        refine lv_iload_n hx hb dX7_weightsOf_28 rfl (lv_at hl 0 rfl) ?_
        refine lv_iadd hx hb dX7_weightsOf_29 ?_
        refine lv_topi (fun x_4575 ex_4575 => ?_)
        have hG := hG.trans (lt_eq ex_4575)
        have vx_4575 : x_4575.toInt = 4 * p0.toInt + z_4567.toInt + 45 := by have q := ti_add ex_4575 vx_4574 rfl (by omega) (by omega); omega
        refine va_iald hx hb hK hP 1 0 rfl rfl (ti_in vx_4575 (by omega) (by omega)) dX7_weightsOf_30 ?_
        refine lv_topi (fun x_4576 ex_4576 => ?_)
        have hG := hG.trans (lt_eq ex_4576)
        have kx_4576 : (fM_r x_4575.toNatClampNeg).toInt = x_4576.toInt := by rw [ex_4576]
        have cx_4576 : (fM_r (45 + 4 * p0.toNatClampNeg + z_4567.toNatClampNeg)).toInt = x_4576.toInt := by rw [show 45 + 4 * p0.toNatClampNeg + z_4567.toNatClampNeg = x_4575.toNatClampNeg from by have q9 := ti_cl (x := x_4575) vx_4575 (by omega); have q_p0 := ti_cl (x := p0) rfl (by omega); have q_z_4567 := ti_cl (x := z_4567) rfl (by omega); omega]; exact kx_4576
        have sx_4576 := r_R.wts x_4575.toNatClampNeg (by have q9 := ti_cl (x := x_4575) vx_4575 (by omega); omega) (by have q9 := ti_cl (x := x_4575) vx_4575 (by omega); omega)
        have xx_4576 := r_R.chance p0.toNatClampNeg z_4567.toNatClampNeg (by have q_1 := ti_cl (x := p0) rfl (by omega); have q_2 := ti_cl (x := z_4567) rfl (by omega); omega) (by omega) (by have q_1 := ti_cl (x := p0) rfl (by omega); have q_2 := ti_cl (x := z_4567) rfl (by omega); omega)
        have xx_4576 : 1 ≤ x_4576.toInt := by have q_3 := cx_4576; rw [show 45 + 4 * p0.toNatClampNeg + z_4567.toNatClampNeg = 45 + 4 * p0.toNatClampNeg + z_4567.toNatClampNeg from by omega] at xx_4576; omega
        refine lv_iadd hx hb dX7_weightsOf_31 ?_
        refine lv_topi (fun x_4577 ex_4577 => ?_)
        have hG := hG.trans (lt_eq ex_4577)
        have vx_4577 : x_4577.toInt = x_4576.toInt + z_4568.toInt := by have q := ti_add ex_4577 rfl rfl (by omega) (by omega); omega
        refine lv_istore_n (lv' := [(2, .int x_4577), (3, .int z_4567), (0, .ref oM), (1, .int p0)]) hx hb dX7_weightsOf_32 rfl hl (by decide) rfl (fun ls hl => ?_)
        obtain ⟨x_4578, ex_4578⟩ : ∃ z : Int32, z = z_4567 + Int32.ofInt 1 := ⟨_, rfl⟩
        have hG := hG.trans (lt_eq ex_4578)
        have vx_4578 : x_4578.toInt = z_4567.toInt + 1 := by have q := ti_add (y := 1) ex_4578 rfl kc_1 (by omega) (by omega); omega
        refine lv_iinc (v := x_4578) (lv' := [(3, .int x_4578), (2, .int x_4577), (0, .ref oM), (1, .int p0)]) hx hb dX7_weightsOf_33 hl (k := 1) rfl ex_4578.symm (by decide) rfl (fun ls hl => ?_)
        refine lv_goto (tgt := 4) hx hb dX7_weightsOf_36 (by decide) ?_
        exact ih_n_4569 x_4578 x_4577 _ _ _  (by first | omega | decide | assumption) (by first | omega | decide | assumption) (by first | omega | decide | assumption) (sum_step (z := x_4576) hi3_n_4569 ex_4577 (by have q := cx_4576; rw [show 45 + 4 * p0.toNatClampNeg + z_4567.toNatClampNeg = 45 + 4 * p0.toNatClampNeg + z_4567.toNatClampNeg from by omega]; exact q) (by have q1 := ti_cl (x := x_4578) vx_4578 (by omega); have q2 := ti_cl (x := z_4567) rfl (by omega); omega)) (by omega) hG (hP.sub [0, 1] rfl) (hD.sub [0, 1] (by decide) rfl) hS (lv_sub hl [0, 1, 2, 3] rfl)
  exact key_n_4569 (((4 - (0 : Int32).toInt).toNat) + 1) 0 0 _ _ _  (by first | omega | decide | assumption | (have q0 := kc_0; have q1 := kc_1; omega) | exact rfl) (by first | omega | decide | assumption | (have q0 := kc_0; have q1 := kc_1; omega) | exact rfl) (by first | omega | decide | assumption | (have q0 := kc_0; have q1 := kc_1; omega) | exact rfl) (by first | omega | decide | assumption | (have q0 := kc_0; have q1 := kc_1; omega) | exact rfl) (by omega) hG hP hD hS hl
set_option maxHeartbeats 4000000 in
set_option maxRecDepth 100000 in
theorem tX7_weightOf_x (l : Launch) (dC : Nat → ClassId) (dI : Nat → Nat → Nat) (sz : Nat) (oM : Nat) (iM_thrown : Int32) (rM_tape : Nat) (iM_taped : Int32) (iM_size : Int32) (iM_at : Int32) (iM_end : Int32) (iM_token : Int32) (iM_whole : Int32) (iM_nameSize : Int32) (iM_fault : Int32) (iM_place : Int32) (iM_trouble : Int32) (rM_letters : Nat) (iM_failed : Int32) (iM_hasCourt : Int32) (rM_r : Nat) (fM_r : Nat → Int32) (kM_r : ClassId) (rM_fresh : Nat) (rM_told : Nat) (fM_told : Nat → Int32) (kM_told : ClassId) (rM_read : Nat) (rM_st : Nat) (rM_undone : Nat) (rM_kept : Nat) (iM_undos : Int32) (iM_images : Int32) (rM_fresher : Nat) (iM_fresherSize : Int32) (iM_scale : Int32) (iM_night : Int32) (rM_heardRow : Nat) (rM_cutRow : Nat) (iM_breaths : Int32) (iM_cutMany : Int32) (iM_allBreaths : Int32) (rM_trial : Nat) (rM_words : Nat) (iM_fewestBreaths : Int32) (iM_orderMany : Int32) (iM_orderSum : Int32) (iM_leastOrder : Int32) (rM_often : Nat) (iM_setMany : Int32) (iM_someOf : Int32) (iM_allOf : Int32) (iM_allWeight : Int64) (iM_enoughWeight : Int64) (iM_worthSum : Int64) (iM_firstRest : Int32) (iM_leastDrawn : Int32) (p0 : Int32) (p1 : Int32) (b_iM_taped : 0 ≤ iM_taped.toInt ∧ iM_taped.toInt ≤ 900) (b_iM_size : 0 ≤ iM_size.toInt ∧ iM_size.toInt ≤ 900) (b_iM_end : 0 ≤ iM_end.toInt ∧ iM_end.toInt ≤ 900) (b_iM_failed : 0 ≤ iM_failed.toInt ∧ iM_failed.toInt ≤ 1) (b_iM_hasCourt : 0 ≤ iM_hasCourt.toInt ∧ iM_hasCourt.toInt ≤ 1) (b_iM_undos : 0 ≤ iM_undos.toInt ∧ iM_undos.toInt ≤ 16) (b_iM_images : 0 ≤ iM_images.toInt ∧ iM_images.toInt ≤ 3) (b_iM_scale : 1 ≤ iM_scale.toInt ∧ iM_scale.toInt ≤ 1296) (b_iM_breaths : 0 ≤ iM_breaths.toInt ∧ iM_breaths.toInt ≤ 399) (b_iM_cutMany : 0 ≤ iM_cutMany.toInt ∧ iM_cutMany.toInt ≤ 399) (r_R : ROk fM_r) (r_C : iM_hasCourt.toInt ≤ 0 ∨ (1 ≤ (fM_r 1).toInt ∧ 0 ≤ (fM_r 6).toInt ∧ (fM_r 6).toInt < (fM_r 1).toInt)) (r_told : RowOk fM_r fM_told) (hk0 : 0 ≤ p0.toInt ∧ p0.toInt < (fM_r 1).toInt) : Met l yX7_weightOf (Cond.code yX7_weightOf cX7_weightOf 4 (some .int) :: wG) ({ frames := 0, cells := 0, slots := 0, locals := 0 }) (va_Pc [.ref oM, .int p0, .int p1] (Pw dC dI sz [(oc7 oM iM_thrown rM_tape iM_taped iM_size iM_at iM_end iM_token iM_whole iM_nameSize iM_fault iM_place iM_trouble rM_letters iM_failed iM_hasCourt rM_r rM_fresh rM_told rM_read rM_st rM_undone rM_kept iM_undos iM_images rM_fresher iM_fresherSize iM_scale iM_night rM_heardRow rM_cutRow iM_breaths iM_cutMany iM_allBreaths rM_trial rM_words iM_fewestBreaths iM_orderMany iM_orderSum iM_leastOrder rM_often iM_setMany iM_someOf iM_allOf iM_allWeight iM_enoughWeight iM_worthSum iM_firstRest iM_leastDrawn), (arI rM_r kM_r 287 fM_r), (arI rM_told kM_told 90 fM_told)] [(kM_r, .int), (kM_told, .int)])) (va_Qi (fun (r : Int32) (_ : Nat) => (True ∧ ((0 ≤ r.toInt ∧ r.toInt ≤ 9) ∧ r = wOf fM_r fM_told p0.toNatClampNeg p1 (fM_r (27 + p0.toNatClampNeg)).toInt.toNat 0)) ∧ PX7_weightOf fM_r fM_told p0 p1 = r) (fun (_ : Nat) (t : State) => Bw dC dI (va_A [(oc7 oM iM_thrown rM_tape iM_taped iM_size iM_at iM_end iM_token iM_whole iM_nameSize iM_fault iM_place iM_trouble rM_letters iM_failed iM_hasCourt rM_r rM_fresh rM_told rM_read rM_st rM_undone rM_kept iM_undos iM_images rM_fresher iM_fresherSize iM_scale iM_night rM_heardRow rM_cutRow iM_breaths iM_cutMany iM_allBreaths rM_trial rM_words iM_fewestBreaths iM_orderMany iM_orderSum iM_leastOrder rM_often iM_setMany iM_someOf iM_allOf iM_allWeight iM_enoughWeight iM_worthSum iM_firstRest iM_leastDrawn), (arI rM_r kM_r 287 fM_r), (arI rM_told kM_told 90 fM_told)] sz) [(oc7 oM iM_thrown rM_tape iM_taped iM_size iM_at iM_end iM_token iM_whole iM_nameSize iM_fault iM_place iM_trouble rM_letters iM_failed iM_hasCourt rM_r rM_fresh rM_told rM_read rM_st rM_undone rM_kept iM_undos iM_images rM_fresher iM_fresherSize iM_scale iM_night rM_heardRow rM_cutRow iM_breaths iM_cutMany iM_allBreaths rM_trial rM_words iM_fewestBreaths iM_orderMany iM_orderSum iM_leastOrder rM_often iM_setMany iM_someOf iM_allOf iM_allWeight iM_enoughWeight iM_worthSum iM_firstRest iM_leastDrawn), (arI rM_r kM_r 287 fM_r), (arI rM_told kM_told 90 fM_told)] [(kM_r, .int), (kM_told, .int)] t) (va_A [(oc7 oM iM_thrown rM_tape iM_taped iM_size iM_at iM_end iM_token iM_whole iM_nameSize iM_fault iM_place iM_trouble rM_letters iM_failed iM_hasCourt rM_r rM_fresh rM_told rM_read rM_st rM_undone rM_kept iM_undos iM_images rM_fresher iM_fresherSize iM_scale iM_night rM_heardRow rM_cutRow iM_breaths iM_cutMany iM_allBreaths rM_trial rM_words iM_fewestBreaths iM_orderMany iM_orderSum iM_leastOrder rM_often iM_setMany iM_someOf iM_allOf iM_allWeight iM_enoughWeight iM_worthSum iM_firstRest iM_leastDrawn), (arI rM_r kM_r 287 fM_r), (arI rM_told kM_told 90 fM_told)] sz)) 0 0 (va_A [(oc7 oM iM_thrown rM_tape iM_taped iM_size iM_at iM_end iM_token iM_whole iM_nameSize iM_fault iM_place iM_trouble rM_letters iM_failed iM_hasCourt rM_r rM_fresh rM_told rM_read rM_st rM_undone rM_kept iM_undos iM_images rM_fresher iM_fresherSize iM_scale iM_night rM_heardRow rM_cutRow iM_breaths iM_cutMany iM_allBreaths rM_trial rM_words iM_fewestBreaths iM_orderMany iM_orderSum iM_leastOrder rM_often iM_setMany iM_someOf iM_allOf iM_allWeight iM_enoughWeight iM_worthSum iM_firstRest iM_leastDrawn), (arI rM_r kM_r 287 fM_r), (arI rM_told kM_told 90 fM_told)] sz) := by
  refine Met.ofW (cc := cX7_weightOf) (maxL := 4) (ret := (some .int)) (by decide) rfl ?_
  intro p e s m args below meth c s₁ B hml hv
  obtain ⟨rfl, hsz, hP, hK, hD0, hE⟩ := hv
  have hx := B.exec
  have hb := B.bytes
  have hr := B.returns
  have hts : ∀ w ∈ wG, w.before ([.ref oM, .int p0, .int p1] : List Value).toArray s = true := fun w h => atoms_spec (ws := Cond.code yX7_weightOf cX7_weightOf 4 (some .int) :: wG) B.pre w (List.mem_cons_of_mem _ h)
  have hown : s.vm.findClass RX7 = some m.cls := findClass_of_methodNamed B.named
  have hlocks := B.notSynchronized
  subst hsz
  have hD := hD0.self (sz := s.heap.size)
  generalize hAe : va_A [(oc7 oM iM_thrown rM_tape iM_taped iM_size iM_at iM_end iM_token iM_whole iM_nameSize iM_fault iM_place iM_trouble rM_letters iM_failed iM_hasCourt rM_r rM_fresh rM_told rM_read rM_st rM_undone rM_kept iM_undos iM_images rM_fresher iM_fresherSize iM_scale iM_night rM_heardRow rM_cutRow iM_breaths iM_cutMany iM_allBreaths rM_trial rM_words iM_fewestBreaths iM_orderMany iM_orderSum iM_leastOrder rM_often iM_setMany iM_someOf iM_allOf iM_allWeight iM_enoughWeight iM_worthSum iM_firstRest iM_leastDrawn), (arI rM_r kM_r 287 fM_r), (arI rM_told kM_told 90 fM_told)] s.heap.size = A at hD hE ⊢
  have hA : ∀ q : Nat, s.heap.size ≤ q → A q := fun q h => by rw [← hAe]; exact Or.inr h
  have hS : va_S A s.heap s.heap [] := va_S.rf
  have hl := lv_entry ([.ref oM, .int p0, .int p1]) (n := 4) (Nat.le_of_ble_eq_true rfl)
  rw [lg_entry_eq]
  generalize (lg_sl ([.ref oM, .int p0, .int p1]) ++ List.replicate (4 - (lg_sl ([.ref oM, .int p0, .int p1])).length) Slot.unset).toArray = ls at hl ⊢
  have hl : lv_has ls 4 [(0, .ref oM), (1, .int p0), (2, .int p1)] := hl
  have hG := PX7_weightOf_eq fM_r fM_told p0 p1
  have rg_p0 := fb_rng p0
  have rg_p1 := fb_rng p1
  have s_slips := r_R.slips
  have s_nodes := r_R.nodes
  have s_uns := r_R.uns
  have q_p0 := ti_cl (x := p0) rfl (by omega)
  have mn_p0 := r_R.many (27 + p0.toNatClampNeg) (by omega) (by omega)
  have kn_p0 := r_R.kind (9 + p0.toNatClampNeg) (by omega) (by omega)
  have in_p0 := r_R.inner p0.toNatClampNeg (by omega)
  refine lv_iconst (v := 0) hx hb dX7_weightOf_0 (by decide) ?_
  refine lv_istore_n (lv' := [(3, .int 0), (0, .ref oM), (1, .int p0), (2, .int p1)]) hx hb dX7_weightOf_1 rfl hl (by decide) rfl (fun ls hl => ?_)
  have hl := lv_sub hl (l' := [(3, .int 0), (0, .ref oM), (1, .int p0), (2, .int p1)]) [0, 1, 2, 3] rfl
  have key_n_4594 : ∀ (n_4594 : Nat) (z_4593 : Int32) (H : Heap) (locs : List Loc) (ls : Array Slot), (0 ≤ z_4593.toInt ∧ z_4593.toInt ≤ 4) → (wOf fM_r fM_told p0.toNatClampNeg p1 (fM_r (27 + p0.toNatClampNeg)).toInt.toNat 0 = wOf fM_r fM_told p0.toNatClampNeg p1 ((fM_r (27 + p0.toNatClampNeg)).toInt.toNat - z_4593.toNatClampNeg) z_4593.toNatClampNeg) → (2147483647 - z_4593.toInt).toNat < n_4594 → (PX7_weightOf fM_r fM_told p0 p1 = HX7_weightOf_0 fM_r fM_told p0 p1 n_4594 z_4593) → va_P (dC, dI) vwCl [(oc7 oM iM_thrown rM_tape iM_taped iM_size iM_at iM_end iM_token iM_whole iM_nameSize iM_fault iM_place iM_trouble rM_letters iM_failed iM_hasCourt rM_r rM_fresh rM_told rM_read rM_st rM_undone rM_kept iM_undos iM_images rM_fresher iM_fresherSize iM_scale iM_night rM_heardRow rM_cutRow iM_breaths iM_cutMany iM_allBreaths rM_trial rM_words iM_fewestBreaths iM_orderMany iM_orderSum iM_leastOrder rM_often iM_setMany iM_someOf iM_allOf iM_allWeight iM_enoughWeight iM_worthSum iM_firstRest iM_leastDrawn), (arI rM_r kM_r 287 fM_r), (arI rM_told kM_told 90 fM_told)] H → va_D A [(oc7 oM iM_thrown rM_tape iM_taped iM_size iM_at iM_end iM_token iM_whole iM_nameSize iM_fault iM_place iM_trouble rM_letters iM_failed iM_hasCourt rM_r rM_fresh rM_told rM_read rM_st rM_undone rM_kept iM_undos iM_images rM_fresher iM_fresherSize iM_scale iM_night rM_heardRow rM_cutRow iM_breaths iM_cutMany iM_allBreaths rM_trial rM_words iM_fewestBreaths iM_orderMany iM_orderSum iM_leastOrder rM_often iM_setMany iM_someOf iM_allOf iM_allWeight iM_enoughWeight iM_worthSum iM_firstRest iM_leastDrawn), (arI rM_r kM_r 287 fM_r), (arI rM_told kM_told 90 fM_told)] → va_S A s.heap H locs → lv_has ls 4 [(3, .int z_4593), (0, .ref oM), (1, .int p0), (2, .int p1)] → W p l e (headSpec (Cond.code yX7_weightOf cX7_weightOf 4 (some .int) :: wG) ({ frames := 0, cells := 0, slots := 0, locals := 0 })).room s m ([.ref oM, .int p0, .int p1] : List Value).toArray below meth c H locs 0 0 (MQ below (va_Qi (fun (r : Int32) (_ : Nat) => (True ∧ ((0 ≤ r.toInt ∧ r.toInt ≤ 9) ∧ r = wOf fM_r fM_told p0.toNatClampNeg p1 (fM_r (27 + p0.toNatClampNeg)).toInt.toNat 0)) ∧ PX7_weightOf fM_r fM_told p0 p1 = r) (fun (_ : Nat) (t : State) => Bw dC dI A [(oc7 oM iM_thrown rM_tape iM_taped iM_size iM_at iM_end iM_token iM_whole iM_nameSize iM_fault iM_place iM_trouble rM_letters iM_failed iM_hasCourt rM_r rM_fresh rM_told rM_read rM_st rM_undone rM_kept iM_undos iM_images rM_fresher iM_fresherSize iM_scale iM_night rM_heardRow rM_cutRow iM_breaths iM_cutMany iM_allBreaths rM_trial rM_words iM_fewestBreaths iM_orderMany iM_orderSum iM_leastOrder rM_often iM_setMany iM_someOf iM_allOf iM_allWeight iM_enoughWeight iM_worthSum iM_firstRest iM_leastDrawn), (arI rM_r kM_r 287 fM_r), (arI rM_told kM_told 90 fM_told)] [(kM_r, .int), (kM_told, .int)] t) A) ([.ref oM, .int p0, .int p1] : List Value).toArray s 0 0 A) (F0 m 2 ls []) := by
    intro n_4594
    induction n_4594 with
    | zero => intro z_4593 H locs ls hi0_n_4594 hi1_n_4594 hm; exact absurd hm (by omega)
    | succ n_4594 ih_n_4594 =>
      intro z_4593 H locs ls hi0_n_4594 hi1_n_4594 hm hG hP hD hS hl
      have hG := hG.trans (HX7_weightOf_0_eq _ _ _ _ _ _)
      have rg_z_4593 := fb_rng z_4593
      refine lv_iload_n hx hb dX7_weightOf_2 rfl (lv_at hl 0 rfl) ?_
      refine lv_aload_n hx hb dX7_weightOf_3 rfl (lv_at hl 1 rfl) ?_
      refine va_get (D := (dC, dI)) (ci := 7) (v := .ref rM_r) (C := RX7) (T := TX7) (N := 48) hx hb hts inX7 hown hK hP 0 rfl rfl 15 (by decide) (hts _ wd_155) (fun _ h9 => h9) rfl dX7_weightOf_4 ?_
      refine lv_bipush (v := 27) hx hb dX7_weightOf_7 (by decide) ?_
      refine lv_iload_n hx hb dX7_weightOf_9 rfl (lv_at hl 2 rfl) ?_
      refine lv_iadd hx hb dX7_weightOf_10 ?_
      refine lv_topi (fun x_4595 ex_4595 => ?_)
      have hG := hG.trans (lt_eq ex_4595)
      have vx_4595 : x_4595.toInt = p0.toInt + 27 := by have q := ti_add ex_4595 kc_27 rfl (by omega) (by omega); omega
      refine va_iald hx hb hK hP 1 0 rfl rfl (ti_in vx_4595 (by omega) (by omega)) dX7_weightOf_11 ?_
      refine lv_topi (fun x_4596 ex_4596 => ?_)
      have hG := hG.trans (lt_eq ex_4596)
      have rg_x_4596 := fb_rng x_4596
      have kx_4596 : (fM_r x_4595.toNatClampNeg).toInt = x_4596.toInt := by rw [ex_4596]
      have cx_4596 : (fM_r (27 + p0.toNatClampNeg)).toInt = x_4596.toInt := by rw [show 27 + p0.toNatClampNeg = x_4595.toNatClampNeg from by have q9 := ti_cl (x := x_4595) vx_4595 (by omega); have q_p0 := ti_cl (x := p0) rfl (by omega); omega]; exact kx_4596
      have sx_4596 := r_R.many x_4595.toNatClampNeg (by have q9 := ti_cl (x := x_4595) vx_4595 (by omega); omega) (by have q9 := ti_cl (x := x_4595) vx_4595 (by omega); omega)
      refine lv_icmp_ge (tgt := 49) hx hb dX7_weightOf_12 (by decide) (fun c_4597 => ?_) (fun c_4597 => ?_)
      · skip
        have hG := hG.trans (if_pos c_4597)
        have gc_4597 := ti_le c_4597 rfl rfl
        refine lv_iconst (v := 0) hx hb dX7_weightOf_49 (by decide) ?_
        exact W.iret hx hb hr (fun t ht hW => ⟨⟨_, 0, rfl, ⟨⟨trivial, ⟨by decide, wOf_out hi1_n_4594 (by have q2 := ti_cl (x := z_4593) rfl (by omega); omega)⟩⟩, hG⟩, Bw.to (hP.sub [0, 1, 2] rfl) (hD.sub [0, 1, 2] (by decide) rfl) (hK.sub [0, 1] rfl) ht hW⟩, hS.F ht⟩) hS.2.2 dX7_weightOf_50
      · skip
        have hG := hG.trans (if_neg c_4597)
        have gc_4597 := ti_nle c_4597 rfl rfl
        refine lv_aload_n hx hb dX7_weightOf_15 rfl (lv_at hl 1 rfl) ?_
        refine va_get (D := (dC, dI)) (ci := 7) (v := .ref rM_told) (C := RX7) (T := TX7) (N := 48) hx hb hts inX7 hown hK hP 0 rfl rfl 17 (by decide) (hts _ wd_157) (fun _ h9 => h9) rfl dX7_weightOf_16 ?_
        refine lv_iconst (v := 4) hx hb dX7_weightOf_19 (by decide) ?_
        refine lv_iload_n hx hb dX7_weightOf_20 rfl (lv_at hl 2 rfl) ?_
        refine lv_imul hx hb dX7_weightOf_21 ?_
        refine lv_topi (fun x_4598 ex_4598 => ?_)
        have hG := hG.trans (lt_eq ex_4598)
        have vx_4598 : x_4598.toInt = 4 * p0.toInt := by have q := ti_mul ex_4598 kc_4 rfl (by omega) (by omega); omega
        refine lv_iload_n hx hb dX7_weightOf_22 rfl (lv_at hl 0 rfl) ?_
        refine lv_iadd hx hb dX7_weightOf_23 ?_
        refine lv_topi (fun x_4599 ex_4599 => ?_)
        have hG := hG.trans (lt_eq ex_4599)
        have vx_4599 : x_4599.toInt = 4 * p0.toInt + z_4593.toInt := by have q := ti_add ex_4599 vx_4598 rfl (by omega) (by omega); omega
        refine va_iald hx hb hK hP 2 1 rfl rfl (ti_in vx_4599 (by omega) (by omega)) dX7_weightOf_24 ?_
        refine lv_topi (fun x_4600 ex_4600 => ?_)
        have hG := hG.trans (lt_eq ex_4600)
        have rg_x_4600 := fb_rng x_4600
        have kx_4600 : (fM_told x_4599.toNatClampNeg).toInt = x_4600.toInt := by rw [ex_4600]
        have cx_4600 : (fM_told (4 * p0.toNatClampNeg + z_4593.toNatClampNeg)).toInt = x_4600.toInt := by rw [show 4 * p0.toNatClampNeg + z_4593.toNatClampNeg = x_4599.toNatClampNeg from by have q9 := ti_cl (x := x_4599) vx_4599 (by omega); have q_p0 := ti_cl (x := p0) rfl (by omega); have q_z_4593 := ti_cl (x := z_4593) rfl (by omega); omega]; exact kx_4600
        have wx_4600 := r_told.lt p0.toNatClampNeg (z_4593.toNatClampNeg) (by have q_1 := ti_cl (x := p0) rfl (by omega); have q_2 := ti_cl (x := z_4593) rfl (by omega); omega) (by have q_1 := ti_cl (x := p0) rfl (by omega); have q_2 := ti_cl (x := z_4593) rfl (by omega); omega)
        have wx_4600 : 0 ≤ x_4600.toInt ∧ x_4600.toInt < p0.toInt := by have q_1 := ti_cl (x := p0) rfl (by omega); have q_2 := ti_cl (x := z_4593) rfl (by omega); have q_3 := cx_4600; rw [show 4 * p0.toNatClampNeg + (z_4593.toNatClampNeg) = 4 * p0.toNatClampNeg + z_4593.toNatClampNeg from by omega] at wx_4600; omega
        refine lv_iload_n hx hb dX7_weightOf_25 rfl (lv_at hl 3 rfl) ?_
        refine lv_icmp_ne (tgt := 43) hx hb dX7_weightOf_26 (by decide) (fun c_4601 => ?_) (fun c_4601 => ?_)
        · skip
          have hG := hG.trans (if_neg c_4601)
          have gc_4601 := ti_ne c_4601 rfl rfl
          obtain ⟨x_4602, ex_4602⟩ : ∃ z : Int32, z = z_4593 + Int32.ofInt 1 := ⟨_, rfl⟩
          have hG := hG.trans (lt_eq ex_4602)
          have vx_4602 : x_4602.toInt = z_4593.toInt + 1 := by have q := ti_add (y := 1) ex_4602 rfl kc_1 (by omega) (by omega); omega
          refine lv_iinc (v := x_4602) (lv' := [(3, .int x_4602), (0, .ref oM), (1, .int p0), (2, .int p1)]) hx hb dX7_weightOf_43 hl (k := 0) rfl ex_4602.symm (by decide) rfl (fun ls hl => ?_)
          refine lv_goto (tgt := 2) hx hb dX7_weightOf_46 (by decide) ?_
          exact ih_n_4594 x_4602 _ _ _  (by first | omega | decide | assumption) (wOf_next (z := x_4600) hi1_n_4594 (by have q := cx_4600; rw [show 4 * p0.toNatClampNeg + z_4593.toNatClampNeg = 4 * p0.toNatClampNeg + z_4593.toNatClampNeg from by omega]; exact q) (by omega) (by have q2 := ti_cl (x := z_4593) rfl (by omega); omega) (by have q1 := ti_cl (x := x_4602) vx_4602 (by omega); have q2 := ti_cl (x := z_4593) rfl (by omega); omega)) (by omega) hG (hP.sub [0, 1, 2] rfl) (hD.sub [0, 1, 2] (by decide) rfl) hS (lv_sub hl [0, 1, 2, 3] rfl)
        · skip
          have hG := hG.trans (if_pos c_4601)
          have gc_4601 := ti_eq c_4601 rfl rfl
          refine lv_aload_n hx hb dX7_weightOf_29 rfl (lv_at hl 1 rfl) ?_
          refine va_get (D := (dC, dI)) (ci := 7) (v := .ref rM_r) (C := RX7) (T := TX7) (N := 48) hx hb hts inX7 hown hK hP 0 rfl rfl 15 (by decide) (hts _ wd_155) (fun _ h9 => h9) rfl dX7_weightOf_30 ?_
          refine lv_bipush (v := 45) hx hb dX7_weightOf_33 (by decide) ?_
          refine lv_iconst (v := 4) hx hb dX7_weightOf_35 (by decide) ?_
          refine lv_iload_n hx hb dX7_weightOf_36 rfl (lv_at hl 2 rfl) ?_
          refine lv_imul hx hb dX7_weightOf_37 ?_
          refine lv_topi (fun x_4603 ex_4603 => ?_)
          have hG := hG.trans (lt_eq ex_4603)
          have vx_4603 : x_4603.toInt = 4 * p0.toInt := by have q := ti_mul ex_4603 kc_4 rfl (by omega) (by omega); omega
          refine lv_iadd hx hb dX7_weightOf_38 ?_
          refine lv_topi (fun x_4604 ex_4604 => ?_)
          have hG := hG.trans (lt_eq ex_4604)
          have vx_4604 : x_4604.toInt = 4 * p0.toInt + 45 := by have q := ti_add ex_4604 kc_45 vx_4603 (by omega) (by omega); omega
          refine lv_iload_n hx hb dX7_weightOf_39 rfl (lv_at hl 0 rfl) ?_
          refine lv_iadd hx hb dX7_weightOf_40 ?_
          refine lv_topi (fun x_4605 ex_4605 => ?_)
          have hG := hG.trans (lt_eq ex_4605)
          have vx_4605 : x_4605.toInt = 4 * p0.toInt + z_4593.toInt + 45 := by have q := ti_add ex_4605 vx_4604 rfl (by omega) (by omega); omega
          refine va_iald hx hb hK hP 1 0 rfl rfl (ti_in vx_4605 (by omega) (by omega)) dX7_weightOf_41 ?_
          refine lv_topi (fun x_4606 ex_4606 => ?_)
          have hG := hG.trans (lt_eq ex_4606)
          have rg_x_4606 := fb_rng x_4606
          have kx_4606 : (fM_r x_4605.toNatClampNeg).toInt = x_4606.toInt := by rw [ex_4606]
          have cx_4606 : (fM_r (45 + 4 * p0.toNatClampNeg + z_4593.toNatClampNeg)).toInt = x_4606.toInt := by rw [show 45 + 4 * p0.toNatClampNeg + z_4593.toNatClampNeg = x_4605.toNatClampNeg from by have q9 := ti_cl (x := x_4605) vx_4605 (by omega); have q_p0 := ti_cl (x := p0) rfl (by omega); have q_z_4593 := ti_cl (x := z_4593) rfl (by omega); omega]; exact kx_4606
          have sx_4606 := r_R.wts x_4605.toNatClampNeg (by have q9 := ti_cl (x := x_4605) vx_4605 (by omega); omega) (by have q9 := ti_cl (x := x_4605) vx_4605 (by omega); omega)
          exact W.iret hx hb hr (fun t ht hW => ⟨⟨_, 0, rfl, ⟨⟨trivial, ⟨by omega, wOf_hit (z := x_4600) hi1_n_4594 (by have q := cx_4600; rw [show 4 * p0.toNatClampNeg + z_4593.toNatClampNeg = 4 * p0.toNatClampNeg + z_4593.toNatClampNeg from by omega]; exact q) (by omega) (by have q2 := ti_cl (x := z_4593) rfl (by omega); omega) (by have q := cx_4606; rw [show 45 + 4 * p0.toNatClampNeg + z_4593.toNatClampNeg = 45 + 4 * p0.toNatClampNeg + z_4593.toNatClampNeg from by omega]; exact q)⟩⟩, hG⟩, Bw.to (hP.sub [0, 1, 2] rfl) (hD.sub [0, 1, 2] (by decide) rfl) (hK.sub [0, 1] rfl) ht hW⟩, hS.F ht⟩) hS.2.2 dX7_weightOf_42
  exact key_n_4594 (((2147483647 - (0 : Int32).toInt).toNat) + 1) 0 _ _ _  (by first | omega | decide | assumption | (have q0 := kc_0; have q1 := kc_1; omega) | exact rfl) (by first | omega | decide | assumption | (have q0 := kc_0; have q1 := kc_1; omega) | exact rfl) (by omega) hG hP hD hS hl
set_option maxHeartbeats 4000000 in
set_option maxRecDepth 100000 in
theorem tX7_worthAt_x_n (l : Launch) (dC : Nat → ClassId) (dI : Nat → Nat → Nat) : ∀ (n9 : Nat) (sz : Nat) (oM : Nat) (iM_thrown : Int32) (rM_tape : Nat) (iM_taped : Int32) (iM_size : Int32) (iM_at : Int32) (iM_end : Int32) (iM_token : Int32) (iM_whole : Int32) (iM_nameSize : Int32) (iM_fault : Int32) (iM_place : Int32) (iM_trouble : Int32) (rM_letters : Nat) (iM_failed : Int32) (iM_hasCourt : Int32) (rM_r : Nat) (fM_r : Nat → Int32) (kM_r : ClassId) (rM_fresh : Nat) (rM_told : Nat) (fM_told : Nat → Int32) (kM_told : ClassId) (rM_read : Nat) (rM_st : Nat) (rM_undone : Nat) (rM_kept : Nat) (iM_undos : Int32) (iM_images : Int32) (rM_fresher : Nat) (iM_fresherSize : Int32) (iM_scale : Int32) (iM_night : Int32) (rM_heardRow : Nat) (rM_cutRow : Nat) (iM_breaths : Int32) (iM_cutMany : Int32) (iM_allBreaths : Int32) (rM_trial : Nat) (rM_words : Nat) (iM_fewestBreaths : Int32) (iM_orderMany : Int32) (iM_orderSum : Int32) (iM_leastOrder : Int32) (rM_often : Nat) (iM_setMany : Int32) (iM_someOf : Int32) (iM_allOf : Int32) (iM_allWeight : Int64) (iM_enoughWeight : Int64) (iM_worthSum : Int64) (iM_firstRest : Int32) (iM_leastDrawn : Int32) (rQ : Nat) (fQ : Nat → Int32) (kQ : ClassId) (p0 : Int32) (p1 : Int32) (b_iM_taped : 0 ≤ iM_taped.toInt ∧ iM_taped.toInt ≤ 900) (b_iM_size : 0 ≤ iM_size.toInt ∧ iM_size.toInt ≤ 900) (b_iM_end : 0 ≤ iM_end.toInt ∧ iM_end.toInt ≤ 900) (b_iM_failed : 0 ≤ iM_failed.toInt ∧ iM_failed.toInt ≤ 1) (b_iM_hasCourt : 0 ≤ iM_hasCourt.toInt ∧ iM_hasCourt.toInt ≤ 1) (b_iM_undos : 0 ≤ iM_undos.toInt ∧ iM_undos.toInt ≤ 16) (b_iM_images : 0 ≤ iM_images.toInt ∧ iM_images.toInt ≤ 3) (b_iM_scale : 1 ≤ iM_scale.toInt ∧ iM_scale.toInt ≤ 1296) (b_iM_breaths : 0 ≤ iM_breaths.toInt ∧ iM_breaths.toInt ≤ 399) (b_iM_cutMany : 0 ≤ iM_cutMany.toInt ∧ iM_cutMany.toInt ≤ 399) (r_R : ROk fM_r) (r_C : iM_hasCourt.toInt ≤ 0 ∨ (1 ≤ (fM_r 1).toInt ∧ 0 ≤ (fM_r 6).toInt ∧ (fM_r 6).toInt < (fM_r 1).toInt)) (r_told : RowOk fM_r fM_told) (r_Q : RowOk fM_r fQ) (hk0 : 0 ≤ p0.toInt ∧ p0.toInt < (fM_r 1).toInt) (hnt : iM_night.toInt = -1) (hdp : 0 ≤ p1.toInt ∧ p1.toInt + p0.toInt ≤ 100) (hn9 : p0.toInt < (n9 : Int)), Met l yX7_worthAt (Cond.code yX7_worthAt cX7_worthAt 9 (some .int) :: wG) ({ frames := 1 + n9, cells := 0, slots := 0, locals := 10 + 28 * n9 }) (va_Pc [.ref oM, .ref rQ, .int p0, .int p1] (Pw dC dI sz [(oc7 oM iM_thrown rM_tape iM_taped iM_size iM_at iM_end iM_token iM_whole iM_nameSize iM_fault iM_place iM_trouble rM_letters iM_failed iM_hasCourt rM_r rM_fresh rM_told rM_read rM_st rM_undone rM_kept iM_undos iM_images rM_fresher iM_fresherSize iM_scale iM_night rM_heardRow rM_cutRow iM_breaths iM_cutMany iM_allBreaths rM_trial rM_words iM_fewestBreaths iM_orderMany iM_orderSum iM_leastOrder rM_often iM_setMany iM_someOf iM_allOf iM_allWeight iM_enoughWeight iM_worthSum iM_firstRest iM_leastDrawn), (arI rM_r kM_r 287 fM_r), (arI rM_told kM_told 90 fM_told), (arI rQ kQ 90 fQ)] [(kM_r, .int), (kM_told, .int), (kQ, .int)])) (va_Qi (fun (r : Int32) (_ : Nat) => (True ∧ (r = rval fM_r fM_told fQ iM_scale n9 p0.toNatClampNeg)) ∧ PX7_worthAt n9 iM_night fM_r fM_told iM_scale fQ p0 p1 = r) (fun (_ : Nat) (t : State) => Bw dC dI (va_A [(oc7 oM iM_thrown rM_tape iM_taped iM_size iM_at iM_end iM_token iM_whole iM_nameSize iM_fault iM_place iM_trouble rM_letters iM_failed iM_hasCourt rM_r rM_fresh rM_told rM_read rM_st rM_undone rM_kept iM_undos iM_images rM_fresher iM_fresherSize iM_scale iM_night rM_heardRow rM_cutRow iM_breaths iM_cutMany iM_allBreaths rM_trial rM_words iM_fewestBreaths iM_orderMany iM_orderSum iM_leastOrder rM_often iM_setMany iM_someOf iM_allOf iM_allWeight iM_enoughWeight iM_worthSum iM_firstRest iM_leastDrawn), (arI rM_r kM_r 287 fM_r), (arI rM_told kM_told 90 fM_told), (arI rQ kQ 90 fQ)] sz) [(oc7 oM iM_thrown rM_tape iM_taped iM_size iM_at iM_end iM_token iM_whole iM_nameSize iM_fault iM_place iM_trouble rM_letters iM_failed iM_hasCourt rM_r rM_fresh rM_told rM_read rM_st rM_undone rM_kept iM_undos iM_images rM_fresher iM_fresherSize iM_scale iM_night rM_heardRow rM_cutRow iM_breaths iM_cutMany iM_allBreaths rM_trial rM_words iM_fewestBreaths iM_orderMany iM_orderSum iM_leastOrder rM_often iM_setMany iM_someOf iM_allOf iM_allWeight iM_enoughWeight iM_worthSum iM_firstRest iM_leastDrawn), (arI rM_r kM_r 287 fM_r), (arI rM_told kM_told 90 fM_told), (arI rQ kQ 90 fQ)] [(kM_r, .int), (kM_told, .int), (kQ, .int)] t) (va_A [(oc7 oM iM_thrown rM_tape iM_taped iM_size iM_at iM_end iM_token iM_whole iM_nameSize iM_fault iM_place iM_trouble rM_letters iM_failed iM_hasCourt rM_r rM_fresh rM_told rM_read rM_st rM_undone rM_kept iM_undos iM_images rM_fresher iM_fresherSize iM_scale iM_night rM_heardRow rM_cutRow iM_breaths iM_cutMany iM_allBreaths rM_trial rM_words iM_fewestBreaths iM_orderMany iM_orderSum iM_leastOrder rM_often iM_setMany iM_someOf iM_allOf iM_allWeight iM_enoughWeight iM_worthSum iM_firstRest iM_leastDrawn), (arI rM_r kM_r 287 fM_r), (arI rM_told kM_told 90 fM_told), (arI rQ kQ 90 fQ)] sz)) 0 0 (va_A [(oc7 oM iM_thrown rM_tape iM_taped iM_size iM_at iM_end iM_token iM_whole iM_nameSize iM_fault iM_place iM_trouble rM_letters iM_failed iM_hasCourt rM_r rM_fresh rM_told rM_read rM_st rM_undone rM_kept iM_undos iM_images rM_fresher iM_fresherSize iM_scale iM_night rM_heardRow rM_cutRow iM_breaths iM_cutMany iM_allBreaths rM_trial rM_words iM_fewestBreaths iM_orderMany iM_orderSum iM_leastOrder rM_often iM_setMany iM_someOf iM_allOf iM_allWeight iM_enoughWeight iM_worthSum iM_firstRest iM_leastDrawn), (arI rM_r kM_r 287 fM_r), (arI rM_told kM_told 90 fM_told), (arI rQ kQ 90 fQ)] sz) := by
  intro n9
  induction n9 with
  | zero => intro sz oM iM_thrown rM_tape iM_taped iM_size iM_at iM_end iM_token iM_whole iM_nameSize iM_fault iM_place iM_trouble rM_letters iM_failed iM_hasCourt rM_r fM_r kM_r rM_fresh rM_told fM_told kM_told rM_read rM_st rM_undone rM_kept iM_undos iM_images rM_fresher iM_fresherSize iM_scale iM_night rM_heardRow rM_cutRow iM_breaths iM_cutMany iM_allBreaths rM_trial rM_words iM_fewestBreaths iM_orderMany iM_orderSum iM_leastOrder rM_often iM_setMany iM_someOf iM_allOf iM_allWeight iM_enoughWeight iM_worthSum iM_firstRest iM_leastDrawn rQ fQ kQ p0 p1 b_iM_taped b_iM_size b_iM_end b_iM_failed b_iM_hasCourt b_iM_undos b_iM_images b_iM_scale b_iM_breaths b_iM_cutMany r_R r_C r_told r_Q hk0 hnt hdp hn9; exact absurd hn9 (by omega)
  | succ n9 ih9 =>
    intro sz oM iM_thrown rM_tape iM_taped iM_size iM_at iM_end iM_token iM_whole iM_nameSize iM_fault iM_place iM_trouble rM_letters iM_failed iM_hasCourt rM_r fM_r kM_r rM_fresh rM_told fM_told kM_told rM_read rM_st rM_undone rM_kept iM_undos iM_images rM_fresher iM_fresherSize iM_scale iM_night rM_heardRow rM_cutRow iM_breaths iM_cutMany iM_allBreaths rM_trial rM_words iM_fewestBreaths iM_orderMany iM_orderSum iM_leastOrder rM_often iM_setMany iM_someOf iM_allOf iM_allWeight iM_enoughWeight iM_worthSum iM_firstRest iM_leastDrawn rQ fQ kQ p0 p1 b_iM_taped b_iM_size b_iM_end b_iM_failed b_iM_hasCourt b_iM_undos b_iM_images b_iM_scale b_iM_breaths b_iM_cutMany r_R r_C r_told r_Q hk0 hnt hdp hn9
    refine Met.ofW (cc := cX7_worthAt) (maxL := 9) (ret := (some .int)) (by decide) rfl ?_
    intro p e s m args below meth c s₁ B hml hv
    obtain ⟨rfl, hsz, hP, hK, hD0, hE⟩ := hv
    have hx := B.exec
    have hb := B.bytes
    have hr := B.returns
    have hts : ∀ w ∈ wG, w.before ([.ref oM, .ref rQ, .int p0, .int p1] : List Value).toArray s = true := fun w h => atoms_spec (ws := Cond.code yX7_worthAt cX7_worthAt 9 (some .int) :: wG) B.pre w (List.mem_cons_of_mem _ h)
    have hown : s.vm.findClass RX7 = some m.cls := findClass_of_methodNamed B.named
    have hlocks := B.notSynchronized
    subst hsz
    have hD := hD0.self (sz := s.heap.size)
    generalize hAe : va_A [(oc7 oM iM_thrown rM_tape iM_taped iM_size iM_at iM_end iM_token iM_whole iM_nameSize iM_fault iM_place iM_trouble rM_letters iM_failed iM_hasCourt rM_r rM_fresh rM_told rM_read rM_st rM_undone rM_kept iM_undos iM_images rM_fresher iM_fresherSize iM_scale iM_night rM_heardRow rM_cutRow iM_breaths iM_cutMany iM_allBreaths rM_trial rM_words iM_fewestBreaths iM_orderMany iM_orderSum iM_leastOrder rM_often iM_setMany iM_someOf iM_allOf iM_allWeight iM_enoughWeight iM_worthSum iM_firstRest iM_leastDrawn), (arI rM_r kM_r 287 fM_r), (arI rM_told kM_told 90 fM_told), (arI rQ kQ 90 fQ)] s.heap.size = A at hD hE ⊢
    have hA : ∀ q : Nat, s.heap.size ≤ q → A q := fun q h => by rw [← hAe]; exact Or.inr h
    have hS : va_S A s.heap s.heap [] := va_S.rf
    have hl := lv_entry ([.ref oM, .ref rQ, .int p0, .int p1]) (n := 9) (Nat.le_of_ble_eq_true rfl)
    rw [lg_entry_eq]
    generalize (lg_sl ([.ref oM, .ref rQ, .int p0, .int p1]) ++ List.replicate (9 - (lg_sl ([.ref oM, .ref rQ, .int p0, .int p1])).length) Slot.unset).toArray = ls at hl ⊢
    have hl : lv_has ls 9 [(0, .ref oM), (1, .ref rQ), (2, .int p0), (3, .int p1)] := hl
    have hG := PX7_worthAt_eq n9 iM_night fM_r fM_told iM_scale fQ p0 p1
    have s_slips := r_R.slips
    have s_nodes := r_R.nodes
    have s_uns := r_R.uns
    have q_p0 := ti_cl (x := p0) rfl (by omega)
    have mn_p0 := r_R.many (27 + p0.toNatClampNeg) (by omega) (by omega)
    have kn_p0 := r_R.kind (9 + p0.toNatClampNeg) (by omega) (by omega)
    have in_p0 := r_R.inner p0.toNatClampNeg (by omega)
    refine lv_aload_n hx hb dX7_worthAt_0 rfl (lv_at hl 0 rfl) ?_
    refine va_get (D := (dC, dI)) (ci := 7) (v := .ref rM_r) (C := RX7) (T := TX7) (N := 48) hx hb hts inX7 hown hK hP 0 rfl rfl 15 (by decide) (hts _ wd_155) (fun _ h9 => h9) rfl dX7_worthAt_1 ?_
    refine lv_bipush (v := 9) hx hb dX7_worthAt_4 (by decide) ?_
    refine lv_iload_n hx hb dX7_worthAt_6 rfl (lv_at hl 2 rfl) ?_
    refine lv_iadd hx hb dX7_worthAt_7 ?_
    refine lv_topi (fun x_4607 ex_4607 => ?_)
    have hG := hG.trans (lt_eq ex_4607)
    have vx_4607 : x_4607.toInt = p0.toInt + 9 := by have q := ti_add ex_4607 kc_9 rfl (by omega) (by omega); omega
    refine va_iald hx hb hK hP 1 0 rfl rfl (ti_in vx_4607 (by omega) (by omega)) dX7_worthAt_8 ?_
    refine lv_topi (fun x_4608 ex_4608 => ?_)
    have hG := hG.trans (lt_eq ex_4608)
    have kx_4608 : (fM_r x_4607.toNatClampNeg).toInt = x_4608.toInt := by rw [ex_4608]
    have cx_4608 : (fM_r (9 + p0.toNatClampNeg)).toInt = x_4608.toInt := by rw [show 9 + p0.toNatClampNeg = x_4607.toNatClampNeg from by have q9 := ti_cl (x := x_4607) vx_4607 (by omega); have q_p0 := ti_cl (x := p0) rfl (by omega); omega]; exact kx_4608
    have sx_4608 := r_R.kind x_4607.toNatClampNeg (by have q9 := ti_cl (x := x_4607) vx_4607 (by omega); omega) (by have q9 := ti_cl (x := x_4607) vx_4607 (by omega); omega)
    refine lv_istore (lv' := [(4, .int x_4608), (0, .ref oM), (1, .ref rQ), (2, .int p0), (3, .int p1)]) hx hb dX7_worthAt_9 hl (by decide) rfl (fun ls hl => ?_)
    refine lv_iload hx hb dX7_worthAt_11 (lv_at hl 0 rfl) ?_
    refine lv_if_ne (tgt := 28) hx hb dX7_worthAt_13 (by decide) (fun c_4609 => ?_) (fun c_4609 => ?_)
    · skip
      have hG := hG.trans (if_neg c_4609)
      have gc_4609 := ti_ne c_4609 rfl kc_0
      refine lv_iload_n hx hb dX7_worthAt_28 rfl (lv_at hl 4 rfl) ?_
      refine lv_aload_n hx hb dX7_worthAt_29 rfl (lv_at hl 1 rfl) ?_
      refine va_get (D := (dC, dI)) (ci := 7) (v := .int iM_night) (C := RX7) (T := TX7) (N := 48) hx hb hts inX7 hown hK hP 0 rfl rfl 27 (by decide) (hts _ wd_164) (fun _ h9 => h9) rfl dX7_worthAt_30 ?_
      refine lv_icmp_ne (tgt := 44) hx hb dX7_worthAt_33 (by decide) (fun c_4610 => ?_) (fun c_4610 => ?_)
      · skip
        have hG := hG.trans (if_neg c_4610)
        have gc_4610 := ti_ne c_4610 rfl rfl
        refine lv_iload hx hb dX7_worthAt_44 (lv_at hl 0 rfl) ?_
        refine lv_iconst (v := 2) hx hb dX7_worthAt_46 (by decide) ?_
        refine lv_icmp_ne (tgt := 55) hx hb dX7_worthAt_47 (by decide) (fun c_4611 => ?_) (fun c_4611 => ?_)
        · skip
          have hG := hG.trans (if_neg c_4611)
          have gc_4611 := ti_ne c_4611 rfl kc_2
          refine lv_iload hx hb dX7_worthAt_55 (lv_at hl 0 rfl) ?_
          refine lv_iconst (v := 1) hx hb dX7_worthAt_57 (by decide) ?_
          refine lv_icmp_ne (tgt := 66) hx hb dX7_worthAt_58 (by decide) (fun c_4612 => ?_) (fun c_4612 => ?_)
          · skip
            have hG := hG.trans (if_neg c_4612)
            have gc_4612 := ti_ne c_4612 rfl kc_1
            refine lv_iconst (v := 0) hx hb dX7_worthAt_66 (by decide) ?_
            refine lv_istore (lv' := [(5, .int 0), (4, .int x_4608), (0, .ref oM), (1, .ref rQ), (2, .int p0), (3, .int p1)]) hx hb dX7_worthAt_67 hl (by decide) rfl (fun ls hl => ?_)
            refine lv_iconst (v := 0) hx hb dX7_worthAt_69 (by decide) ?_
            refine lv_istore (lv' := [(6, .int 0), (5, .int 0), (4, .int x_4608), (0, .ref oM), (1, .ref rQ), (2, .int p0), (3, .int p1)]) hx hb dX7_worthAt_70 hl (by decide) rfl (fun ls hl => ?_)
            have hl := lv_sub hl (l' := [(6, .int 0), (5, .int 0), (4, .int x_4608), (0, .ref oM), (1, .ref rQ), (2, .int p0), (3, .int p1)]) [0, 1, 2, 3, 4, 5, 6] rfl
            have key_n_4615 : ∀ (n_4615 : Nat) (z_4613 : Int32) (z_4614 : Int32) (H : Heap) (locs : List Loc) (ls : Array Slot), (0 ≤ z_4613.toInt ∧ z_4613.toInt ≤ (fM_r (27 + p0.toNatClampNeg)).toInt) → (z_4614 = foldV (fM_r (9 + p0.toNatClampNeg)).toInt (startV (fM_r (9 + p0.toNatClampNeg)).toInt) (VF fM_r fM_told fQ iM_scale n9 p0.toNatClampNeg) (WF fM_r fM_told fQ p0.toNatClampNeg) z_4613.toNatClampNeg) → (4 - z_4613.toInt).toNat < n_4615 → (PX7_worthAt (n9 + 1) iM_night fM_r fM_told iM_scale fQ p0 p1 = HX7_worthAt_2 (PX7_worthAt n9) fM_r fM_told iM_scale iM_night fQ p0 p1 x_4608 n_4615 z_4613 z_4614) → va_P (dC, dI) vwCl [(oc7 oM iM_thrown rM_tape iM_taped iM_size iM_at iM_end iM_token iM_whole iM_nameSize iM_fault iM_place iM_trouble rM_letters iM_failed iM_hasCourt rM_r rM_fresh rM_told rM_read rM_st rM_undone rM_kept iM_undos iM_images rM_fresher iM_fresherSize iM_scale iM_night rM_heardRow rM_cutRow iM_breaths iM_cutMany iM_allBreaths rM_trial rM_words iM_fewestBreaths iM_orderMany iM_orderSum iM_leastOrder rM_often iM_setMany iM_someOf iM_allOf iM_allWeight iM_enoughWeight iM_worthSum iM_firstRest iM_leastDrawn), (arI rM_r kM_r 287 fM_r), (arI rM_told kM_told 90 fM_told), (arI rQ kQ 90 fQ)] H → va_D A [(oc7 oM iM_thrown rM_tape iM_taped iM_size iM_at iM_end iM_token iM_whole iM_nameSize iM_fault iM_place iM_trouble rM_letters iM_failed iM_hasCourt rM_r rM_fresh rM_told rM_read rM_st rM_undone rM_kept iM_undos iM_images rM_fresher iM_fresherSize iM_scale iM_night rM_heardRow rM_cutRow iM_breaths iM_cutMany iM_allBreaths rM_trial rM_words iM_fewestBreaths iM_orderMany iM_orderSum iM_leastOrder rM_often iM_setMany iM_someOf iM_allOf iM_allWeight iM_enoughWeight iM_worthSum iM_firstRest iM_leastDrawn), (arI rM_r kM_r 287 fM_r), (arI rM_told kM_told 90 fM_told), (arI rQ kQ 90 fQ)] → va_S A s.heap H locs → lv_has ls 9 [(6, .int z_4613), (5, .int z_4614), (4, .int x_4608), (0, .ref oM), (1, .ref rQ), (2, .int p0), (3, .int p1)] → W p l e (headSpec (Cond.code yX7_worthAt cX7_worthAt 9 (some .int) :: wG) ({ frames := 1 + (n9 + 1), cells := 0, slots := 0, locals := 10 + 28 * (n9 + 1) })).room s m ([.ref oM, .ref rQ, .int p0, .int p1] : List Value).toArray below meth c H locs 0 0 (MQ below (va_Qi (fun (r : Int32) (_ : Nat) => (True ∧ (r = rval fM_r fM_told fQ iM_scale (n9 + 1) p0.toNatClampNeg)) ∧ PX7_worthAt (n9 + 1) iM_night fM_r fM_told iM_scale fQ p0 p1 = r) (fun (_ : Nat) (t : State) => Bw dC dI A [(oc7 oM iM_thrown rM_tape iM_taped iM_size iM_at iM_end iM_token iM_whole iM_nameSize iM_fault iM_place iM_trouble rM_letters iM_failed iM_hasCourt rM_r rM_fresh rM_told rM_read rM_st rM_undone rM_kept iM_undos iM_images rM_fresher iM_fresherSize iM_scale iM_night rM_heardRow rM_cutRow iM_breaths iM_cutMany iM_allBreaths rM_trial rM_words iM_fewestBreaths iM_orderMany iM_orderSum iM_leastOrder rM_often iM_setMany iM_someOf iM_allOf iM_allWeight iM_enoughWeight iM_worthSum iM_firstRest iM_leastDrawn), (arI rM_r kM_r 287 fM_r), (arI rM_told kM_told 90 fM_told), (arI rQ kQ 90 fQ)] [(kM_r, .int), (kM_told, .int), (kQ, .int)] t) A) ([.ref oM, .ref rQ, .int p0, .int p1] : List Value).toArray s 0 0 A) (F0 m 72 ls []) := by
              intro n_4615
              induction n_4615 with
              | zero => intro z_4613 z_4614 H locs ls hi0_n_4615 hi1_n_4615 hm; exact absurd hm (by omega)
              | succ n_4615 ih_n_4615 =>
                intro z_4613 z_4614 H locs ls hi0_n_4615 hi1_n_4615 hm hG hP hD hS hl
                have hG := hG.trans (HX7_worthAt_2_eq _ _ _ _ _ _ _ _ _ _ _ _)
                refine lv_iload hx hb dX7_worthAt_72 (lv_at hl 0 rfl) ?_
                refine lv_aload_n hx hb dX7_worthAt_74 rfl (lv_at hl 3 rfl) ?_
                refine va_get (D := (dC, dI)) (ci := 7) (v := .ref rM_r) (C := RX7) (T := TX7) (N := 48) hx hb hts inX7 hown hK hP 0 rfl rfl 15 (by decide) (hts _ wd_155) (fun _ h9 => h9) rfl dX7_worthAt_75 ?_
                refine lv_bipush (v := 27) hx hb dX7_worthAt_78 (by decide) ?_
                refine lv_iload_n hx hb dX7_worthAt_80 rfl (lv_at hl 5 rfl) ?_
                refine lv_iadd hx hb dX7_worthAt_81 ?_
                refine lv_topi (fun x_4616 ex_4616 => ?_)
                have hG := hG.trans (lt_eq ex_4616)
                have vx_4616 : x_4616.toInt = p0.toInt + 27 := by have q := ti_add ex_4616 kc_27 rfl (by omega) (by omega); omega
                refine va_iald hx hb hK hP 1 0 rfl rfl (ti_in vx_4616 (by omega) (by omega)) dX7_worthAt_82 ?_
                refine lv_topi (fun x_4617 ex_4617 => ?_)
                have hG := hG.trans (lt_eq ex_4617)
                have kx_4617 : (fM_r x_4616.toNatClampNeg).toInt = x_4617.toInt := by rw [ex_4617]
                have cx_4617 : (fM_r (27 + p0.toNatClampNeg)).toInt = x_4617.toInt := by rw [show 27 + p0.toNatClampNeg = x_4616.toNatClampNeg from by have q9 := ti_cl (x := x_4616) vx_4616 (by omega); have q_p0 := ti_cl (x := p0) rfl (by omega); omega]; exact kx_4617
                have sx_4617 := r_R.many x_4616.toNatClampNeg (by have q9 := ti_cl (x := x_4616) vx_4616 (by omega); omega) (by have q9 := ti_cl (x := x_4616) vx_4616 (by omega); omega)
                refine lv_icmp_ge (tgt := 179) hx hb dX7_worthAt_83 (by decide) (fun c_4618 => ?_) (fun c_4618 => ?_)
                · skip
                  have hG := hG.trans (if_pos c_4618)
                  have gc_4618 := ti_le c_4618 rfl rfl
                  refine lv_iload hx hb dX7_worthAt_179 (lv_at hl 2 rfl) ?_
                  refine lv_iconst (v := 3) hx hb dX7_worthAt_181 (by decide) ?_
                  refine lv_icmp_ne (tgt := 196) hx hb dX7_worthAt_182 (by decide) (fun c_4619 => ?_) (fun c_4619 => ?_)
                  · skip
                    have hG := hG.trans (if_neg c_4619)
                    have gc_4619 := ti_ne c_4619 rfl kc_3
                    refine lv_iload hx hb dX7_worthAt_196 (lv_at hl 1 rfl) ?_
                    exact W.iret hx hb hr (fun t ht hW => ⟨⟨_, 0, rfl, ⟨⟨trivial, (rval_fold (by omega) (by omega) hi1_n_4615 (by have q1 := ti_cl (x := z_4613) rfl (by omega); omega))⟩, hG⟩, Bw.to (hP.sub [0, 1, 2, 3] rfl) (hD.sub [0, 1, 2, 3] (by decide) rfl) (hK.sub [0, 1, 2] rfl) ht hW⟩, hS.F ht⟩) hS.2.2 dX7_worthAt_198
                  · skip
                    have hG := hG.trans (if_pos c_4619)
                    have gc_4619 := ti_eq c_4619 rfl kc_3
                    refine lv_iload hx hb dX7_worthAt_185 (lv_at hl 1 rfl) ?_
                    refine lv_aload_n hx hb dX7_worthAt_187 rfl (lv_at hl 3 rfl) ?_
                    refine lv_iload_n hx hb dX7_worthAt_188 rfl (lv_at hl 5 rfl) ?_
                    have hFc := va_free (wc := [(oc7 oM iM_thrown rM_tape iM_taped iM_size iM_at iM_end iM_token iM_whole iM_nameSize iM_fault iM_place iM_trouble rM_letters iM_failed iM_hasCourt rM_r rM_fresh rM_told rM_read rM_st rM_undone rM_kept iM_undos iM_images rM_fresher iM_fresherSize iM_scale iM_night rM_heardRow rM_cutRow iM_breaths iM_cutMany iM_allBreaths rM_trial rM_words iM_fewestBreaths iM_orderMany iM_orderSum iM_leastOrder rM_often iM_setMany iM_someOf iM_allOf iM_allWeight iM_enoughWeight iM_worthSum iM_firstRest iM_leastDrawn), (arI rM_r kM_r 287 fM_r)]) hD hS hA [0, 1] rfl
                    refine va_calli (va_runV (As := [.int p0]) (rest := [.int z_4614]) ⟨hx, hb, hml, hown, hts⟩ (tX7_weightsOf_x l dC dI _ oM iM_thrown rM_tape iM_taped iM_size iM_at iM_end iM_token iM_whole iM_nameSize iM_fault iM_place iM_trouble rM_letters iM_failed iM_hasCourt rM_r fM_r kM_r rM_fresh rM_told rM_read rM_st rM_undone rM_kept iM_undos iM_images rM_fresher iM_fresherSize iM_scale iM_night rM_heardRow rM_cutRow iM_breaths iM_cutMany iM_allBreaths rM_trial rM_words iM_fewestBreaths iM_orderMany iM_orderSum iM_leastOrder rM_often iM_setMany iM_someOf iM_allOf iM_allWeight iM_enoughWeight iM_worthSum iM_firstRest iM_leastDrawn p0 (by first | omega | decide) (by first | omega | decide) (by first | omega | decide) (by first | omega | decide) (by first | omega | decide) (by first | omega | decide) (by first | omega | decide) (by first | omega | decide) (by first | omega | decide) (by first | omega | decide) (by assumption) (by assumption) (by first | omega | decide | assumption | (have q0 := kc_0; have q1 := kc_1; omega) | (intro h; exact absurd h (by decide))) (by first | omega | decide | assumption | (have q0 := kc_0; have q1 := kc_1; omega) | (intro h; exact absurd h (by decide)))) (cwV 1 hts (wd_V wd_506 wd_507 wd_508 wd_5 (wd_c wd_509)) rfl rfl rfl (by decide +kernel) ⟨(show (0) + 1 ≤ 1 + (n9 + 1) by omega), (show 8 + (4 + 11) + (0) ≤ 10 + 28 * (n9 + 1) by omega)⟩) ⟨Pw.fb, va_recv hK hP (ci := 7) (q0 := 0) rfl rfl, fun U hU hW => Pw.to (hP.sub [0, 1] rfl) (hD.sub [0, 1] (by decide) rfl) (hK.sub [0] rfl) hE hS hFc hU hW⟩ rfl rfl hl.1 rfl (lv_room (Nat.le_of_ble_eq_true rfl)) dX7_worthAt_189 ⟨Nat.le_of_ble_eq_true rfl, Nat.le_of_ble_eq_true rfl⟩) hS (fun q _ h => hFc q h) hFc (fun r u t H locs ht hvm hw hB hz1 hk1 hS => ?_)
                    have hru9 := hw.2
                    have hw := hw.1
                    obtain ⟨hP, hD, hK⟩ := Bw.go (ws' := [(arI rM_told kM_told 90 fM_told), (arI rQ kQ 90 fQ), (oc7 oM iM_thrown rM_tape iM_taped iM_size iM_at iM_end iM_token iM_whole iM_nameSize iM_fault iM_place iM_trouble rM_letters iM_failed iM_hasCourt rM_r rM_fresh rM_told rM_read rM_st rM_undone rM_kept iM_undos iM_images rM_fresher iM_fresherSize iM_scale iM_night rM_heardRow rM_cutRow iM_breaths iM_cutMany iM_allBreaths rM_trial rM_words iM_fewestBreaths iM_orderMany iM_orderSum iM_leastOrder rM_often iM_setMany iM_someOf iM_allOf iM_allWeight iM_enoughWeight iM_worthSum iM_firstRest iM_leastDrawn), (arI rM_r kM_r 287 fM_r)]) (tys' := [(kM_told, .int), (kQ, .int), (kM_r, .int)]) hB rfl ht hvm hP hD hK [0, 1] [2, 3] rfl (by decide) (by decide) [1, 2] hk1 hFc rfl rfl rfl
                    clear hz1 hk1 hvm ht hB
                    obtain ⟨x_4620, rfl⟩ : ∃ z, z = r := ⟨_, rfl⟩
                    have hG := hG.trans (lt_eq hru9.symm)
                    have lx_4620 := hw.2
                    have ux_4620 := hw.2
                    refine lv_idiv hx hb dX7_worthAt_192 (ti_n0 rfl (by omega)) ?_
                    refine lv_topi (fun x_4621 ex_4621 => ?_)
                    have hG := hG.trans (lt_eq ex_4621)
                    refine lv_goto (tgt := 198) hx hb dX7_worthAt_193 (by decide) ?_
                    exact W.iret hx hb hr (fun t ht hW => ⟨⟨_, 0, rfl, ⟨⟨trivial, (rval_ch (by omega) hi1_n_4615 (by have q1 := ti_cl (x := z_4613) rfl (by omega); omega) lx_4620.2 ex_4621)⟩, hG⟩, Bw.to (hP.sub [2, 3, 0, 1] rfl) (hD.sub [2, 3, 0, 1] (by decide) rfl) (hK.sub [2, 0, 1] rfl) ht hW⟩, hS.F ht⟩) hS.2.2 dX7_worthAt_198
                · skip
                  have hG := hG.trans (if_neg c_4618)
                  have gc_4618 := ti_nle c_4618 rfl rfl
                  refine lv_aload_n hx hb dX7_worthAt_86 rfl (lv_at hl 4 rfl) ?_
                  refine lv_iconst (v := 4) hx hb dX7_worthAt_87 (by decide) ?_
                  refine lv_iload_n hx hb dX7_worthAt_88 rfl (lv_at hl 5 rfl) ?_
                  refine lv_imul hx hb dX7_worthAt_89 ?_
                  refine lv_topi (fun x_4622 ex_4622 => ?_)
                  have hG := hG.trans (lt_eq ex_4622)
                  have vx_4622 : x_4622.toInt = 4 * p0.toInt := by have q := ti_mul ex_4622 kc_4 rfl (by omega) (by omega); omega
                  refine lv_iload hx hb dX7_worthAt_90 (lv_at hl 0 rfl) ?_
                  refine lv_iadd hx hb dX7_worthAt_92 ?_
                  refine lv_topi (fun x_4623 ex_4623 => ?_)
                  have hG := hG.trans (lt_eq ex_4623)
                  have vx_4623 : x_4623.toInt = 4 * p0.toInt + z_4613.toInt := by have q := ti_add ex_4623 vx_4622 rfl (by omega) (by omega); omega
                  refine va_iald hx hb hK hP 3 2 rfl rfl (ti_in vx_4623 (by omega) (by omega)) dX7_worthAt_93 ?_
                  refine lv_topi (fun x_4624 ex_4624 => ?_)
                  have hG := hG.trans (lt_eq ex_4624)
                  have kx_4624 : (fQ x_4623.toNatClampNeg).toInt = x_4624.toInt := by rw [ex_4624]
                  have cx_4624 : (fQ (4 * p0.toNatClampNeg + z_4613.toNatClampNeg)).toInt = x_4624.toInt := by rw [show 4 * p0.toNatClampNeg + z_4613.toNatClampNeg = x_4623.toNatClampNeg from by have q9 := ti_cl (x := x_4623) vx_4623 (by omega); have q_p0 := ti_cl (x := p0) rfl (by omega); have q_z_4613 := ti_cl (x := z_4613) rfl (by omega); omega]; exact kx_4624
                  have wx_4624 := r_Q.lt p0.toNatClampNeg (z_4613.toNatClampNeg) (by have q_1 := ti_cl (x := p0) rfl (by omega); have q_2 := ti_cl (x := z_4613) rfl (by omega); omega) (by have q_1 := ti_cl (x := p0) rfl (by omega); have q_2 := ti_cl (x := z_4613) rfl (by omega); omega)
                  have wx_4624 : 0 ≤ x_4624.toInt ∧ x_4624.toInt < p0.toInt := by have q_1 := ti_cl (x := p0) rfl (by omega); have q_2 := ti_cl (x := z_4613) rfl (by omega); have q_3 := cx_4624; rw [show 4 * p0.toNatClampNeg + (z_4613.toNatClampNeg) = 4 * p0.toNatClampNeg + z_4613.toNatClampNeg from by omega] at wx_4624; omega
                  refine lv_istore (lv' := [(7, .int x_4624), (6, .int z_4613), (5, .int z_4614), (4, .int x_4608), (0, .ref oM), (1, .ref rQ), (2, .int p0), (3, .int p1)]) hx hb dX7_worthAt_94 hl (by decide) rfl (fun ls hl => ?_)
                  refine lv_aload_n hx hb dX7_worthAt_96 rfl (lv_at hl 4 rfl) ?_
                  refine lv_aload_n hx hb dX7_worthAt_97 rfl (lv_at hl 5 rfl) ?_
                  refine lv_iload hx hb dX7_worthAt_98 (lv_at hl 0 rfl) ?_
                  refine lv_iload_n hx hb dX7_worthAt_100 rfl (lv_at hl 7 rfl) ?_
                  refine lv_iconst (v := 1) hx hb dX7_worthAt_101 (by decide) ?_
                  refine lv_iadd hx hb dX7_worthAt_102 ?_
                  refine lv_topi (fun x_4625 ex_4625 => ?_)
                  have hG := hG.trans (lt_eq ex_4625)
                  have vx_4625 : x_4625.toInt = p1.toInt + 1 := by have q := ti_add ex_4625 rfl kc_1 (by omega) (by omega); omega
                  have hFc := va_free (wc := [(oc7 oM iM_thrown rM_tape iM_taped iM_size iM_at iM_end iM_token iM_whole iM_nameSize iM_fault iM_place iM_trouble rM_letters iM_failed iM_hasCourt rM_r rM_fresh rM_told rM_read rM_st rM_undone rM_kept iM_undos iM_images rM_fresher iM_fresherSize iM_scale iM_night rM_heardRow rM_cutRow iM_breaths iM_cutMany iM_allBreaths rM_trial rM_words iM_fewestBreaths iM_orderMany iM_orderSum iM_leastOrder rM_often iM_setMany iM_someOf iM_allOf iM_allWeight iM_enoughWeight iM_worthSum iM_firstRest iM_leastDrawn), (arI rM_r kM_r 287 fM_r), (arI rM_told kM_told 90 fM_told), (arI rQ kQ 90 fQ)]) hD hS hA [0, 1, 2, 3] rfl
                  refine va_calli (va_runV (As := [.ref rQ, .int x_4624, .int x_4625]) (rest := []) ⟨hx, hb, hml, hown, hts⟩ (ih9 _ oM iM_thrown rM_tape iM_taped iM_size iM_at iM_end iM_token iM_whole iM_nameSize iM_fault iM_place iM_trouble rM_letters iM_failed iM_hasCourt rM_r fM_r kM_r rM_fresh rM_told fM_told kM_told rM_read rM_st rM_undone rM_kept iM_undos iM_images rM_fresher iM_fresherSize iM_scale iM_night rM_heardRow rM_cutRow iM_breaths iM_cutMany iM_allBreaths rM_trial rM_words iM_fewestBreaths iM_orderMany iM_orderSum iM_leastOrder rM_often iM_setMany iM_someOf iM_allOf iM_allWeight iM_enoughWeight iM_worthSum iM_firstRest iM_leastDrawn rQ fQ kQ x_4624 x_4625 (by first | omega | decide) (by first | omega | decide) (by first | omega | decide) (by first | omega | decide) (by first | omega | decide) (by first | omega | decide) (by first | omega | decide) (by first | omega | decide) (by first | omega | decide) (by first | omega | decide) (by assumption) (by assumption) (by assumption) (by assumption) (by first | omega | decide | assumption | (have q0 := kc_0; have q1 := kc_1; omega) | (intro h; exact absurd h (by decide))) (by first | omega | decide | assumption | (have q0 := kc_0; have q1 := kc_1; omega) | (intro h; exact absurd h (by decide))) (by first | omega | decide | assumption | (have q0 := kc_0; have q1 := kc_1; omega) | (intro h; exact absurd h (by decide))) (by first | omega | decide | assumption | (have q0 := kc_0; have q1 := kc_1; omega) | (intro h; exact absurd h (by decide)))) (cwV 3 hts (wd_V wd_649 wd_650 wd_651 wd_5 (wd_c wd_652)) rfl rfl rfl (by decide +kernel) ⟨(show (1 + n9) + 1 ≤ 1 + (n9 + 1) by omega), (show 8 + (9 + 11) + (10 + 28 * n9) ≤ 10 + 28 * (n9 + 1) by omega)⟩) ⟨Pw.fb, va_recv hK hP (ci := 7) (q0 := 0) rfl rfl, fun U hU hW => Pw.to (hP.sub [0, 1, 2, 3] rfl) (hD.sub [0, 1, 2, 3] (by decide) rfl) (hK.sub [0, 1, 2] rfl) hE hS hFc hU hW⟩ rfl rfl hl.1 rfl (lv_room (Nat.le_of_ble_eq_true rfl)) dX7_worthAt_103 ⟨Nat.le_of_ble_eq_true rfl, Nat.le_of_ble_eq_true rfl⟩) hS (fun q _ h => hFc q h) hFc (fun r u t H locs ht hvm hw hB hz1 hk1 hS => ?_)
                  have hru9 := hw.2
                  have hw := hw.1
                  obtain ⟨hP, hD, hK⟩ := Bw.go (ws' := [(oc7 oM iM_thrown rM_tape iM_taped iM_size iM_at iM_end iM_token iM_whole iM_nameSize iM_fault iM_place iM_trouble rM_letters iM_failed iM_hasCourt rM_r rM_fresh rM_told rM_read rM_st rM_undone rM_kept iM_undos iM_images rM_fresher iM_fresherSize iM_scale iM_night rM_heardRow rM_cutRow iM_breaths iM_cutMany iM_allBreaths rM_trial rM_words iM_fewestBreaths iM_orderMany iM_orderSum iM_leastOrder rM_often iM_setMany iM_someOf iM_allOf iM_allWeight iM_enoughWeight iM_worthSum iM_firstRest iM_leastDrawn), (arI rM_r kM_r 287 fM_r), (arI rM_told kM_told 90 fM_told), (arI rQ kQ 90 fQ)]) (tys' := [(kM_r, .int), (kM_told, .int), (kQ, .int)]) hB rfl ht hvm hP hD hK [0, 1, 2, 3] [] rfl (by decide) (by decide) [] hk1 hFc rfl rfl rfl
                  clear hz1 hk1 hvm ht hB
                  obtain ⟨x_4626, rfl⟩ : ∃ z, z = r := ⟨_, rfl⟩
                  have hG := hG.trans (lt_eq hru9.symm)
                  have lx_4626 := hw.2
                  refine lv_istore (lv' := [(8, .int x_4626), (7, .int x_4624), (6, .int z_4613), (5, .int z_4614), (4, .int x_4608), (0, .ref oM), (1, .ref rQ), (2, .int p0), (3, .int p1)]) hx hb dX7_worthAt_106 hl (by decide) rfl (fun ls hl => ?_)
                  refine lv_iload hx hb dX7_worthAt_108 (lv_at hl 4 rfl) ?_
                  refine lv_iconst (v := 1) hx hb dX7_worthAt_110 (by decide) ?_
                  refine lv_icmp_ne (tgt := 133) hx hb dX7_worthAt_111 (by decide) (fun c_4627 => ?_) (fun c_4627 => ?_)
                  · skip
                    have hG := hG.trans (if_neg c_4627)
                    have gc_4627 := ti_ne c_4627 rfl kc_1
                    refine lv_iload hx hb dX7_worthAt_133 (lv_at hl 4 rfl) ?_
                    refine lv_iconst (v := 2) hx hb dX7_worthAt_135 (by decide) ?_
                    refine lv_icmp_ne (tgt := 158) hx hb dX7_worthAt_136 (by decide) (fun c_4628 => ?_) (fun c_4628 => ?_)
                    · skip
                      have hG := hG.trans (if_neg c_4628)
                      have gc_4628 := ti_ne c_4628 rfl kc_2
                      refine lv_iload hx hb dX7_worthAt_158 (lv_at hl 3 rfl) ?_
                      refine lv_iload hx hb dX7_worthAt_160 (lv_at hl 0 rfl) ?_
                      refine lv_aload_n hx hb dX7_worthAt_162 rfl (lv_at hl 5 rfl) ?_
                      refine lv_iload_n hx hb dX7_worthAt_163 rfl (lv_at hl 7 rfl) ?_
                      refine lv_iload hx hb dX7_worthAt_164 (lv_at hl 1 rfl) ?_
                      have hFc := va_free (wc := [(oc7 oM iM_thrown rM_tape iM_taped iM_size iM_at iM_end iM_token iM_whole iM_nameSize iM_fault iM_place iM_trouble rM_letters iM_failed iM_hasCourt rM_r rM_fresh rM_told rM_read rM_st rM_undone rM_kept iM_undos iM_images rM_fresher iM_fresherSize iM_scale iM_night rM_heardRow rM_cutRow iM_breaths iM_cutMany iM_allBreaths rM_trial rM_words iM_fewestBreaths iM_orderMany iM_orderSum iM_leastOrder rM_often iM_setMany iM_someOf iM_allOf iM_allWeight iM_enoughWeight iM_worthSum iM_firstRest iM_leastDrawn), (arI rM_r kM_r 287 fM_r), (arI rM_told kM_told 90 fM_told)]) hD hS hA [0, 1, 2] rfl
                      refine va_calli (va_runV (As := [.int p0, .int x_4624]) (rest := [.int x_4626, .int z_4614]) ⟨hx, hb, hml, hown, hts⟩ (tX7_weightOf_x l dC dI _ oM iM_thrown rM_tape iM_taped iM_size iM_at iM_end iM_token iM_whole iM_nameSize iM_fault iM_place iM_trouble rM_letters iM_failed iM_hasCourt rM_r fM_r kM_r rM_fresh rM_told fM_told kM_told rM_read rM_st rM_undone rM_kept iM_undos iM_images rM_fresher iM_fresherSize iM_scale iM_night rM_heardRow rM_cutRow iM_breaths iM_cutMany iM_allBreaths rM_trial rM_words iM_fewestBreaths iM_orderMany iM_orderSum iM_leastOrder rM_often iM_setMany iM_someOf iM_allOf iM_allWeight iM_enoughWeight iM_worthSum iM_firstRest iM_leastDrawn p0 x_4624 (by first | omega | decide) (by first | omega | decide) (by first | omega | decide) (by first | omega | decide) (by first | omega | decide) (by first | omega | decide) (by first | omega | decide) (by first | omega | decide) (by first | omega | decide) (by first | omega | decide) (by assumption) (by assumption) (by assumption) (by first | omega | decide | assumption | (have q0 := kc_0; have q1 := kc_1; omega) | (intro h; exact absurd h (by decide)))) (cwV 2 hts (wd_V wd_587 wd_588 wd_589 wd_5 (wd_c wd_590)) rfl rfl rfl (by decide +kernel) ⟨(show (0) + 1 ≤ 1 + (n9 + 1) by omega), (show 8 + (4 + 11) + (0) ≤ 10 + 28 * (n9 + 1) by omega)⟩) ⟨Pw.fb, va_recv hK hP (ci := 7) (q0 := 0) rfl rfl, fun U hU hW => Pw.to (hP.sub [0, 1, 2] rfl) (hD.sub [0, 1, 2] (by decide) rfl) (hK.sub [0, 1] rfl) hE hS hFc hU hW⟩ rfl rfl hl.1 rfl (lv_room (Nat.le_of_ble_eq_true rfl)) dX7_worthAt_166 ⟨Nat.le_of_ble_eq_true rfl, Nat.le_of_ble_eq_true rfl⟩) hS (fun q _ h => hFc q h) hFc (fun r u t H locs ht hvm hw hB hz1 hk1 hS => ?_)
                      have hru9 := hw.2
                      have hw := hw.1
                      obtain ⟨hP, hD, hK⟩ := Bw.go (ws' := [(arI rQ kQ 90 fQ), (oc7 oM iM_thrown rM_tape iM_taped iM_size iM_at iM_end iM_token iM_whole iM_nameSize iM_fault iM_place iM_trouble rM_letters iM_failed iM_hasCourt rM_r rM_fresh rM_told rM_read rM_st rM_undone rM_kept iM_undos iM_images rM_fresher iM_fresherSize iM_scale iM_night rM_heardRow rM_cutRow iM_breaths iM_cutMany iM_allBreaths rM_trial rM_words iM_fewestBreaths iM_orderMany iM_orderSum iM_leastOrder rM_often iM_setMany iM_someOf iM_allOf iM_allWeight iM_enoughWeight iM_worthSum iM_firstRest iM_leastDrawn), (arI rM_r kM_r 287 fM_r), (arI rM_told kM_told 90 fM_told)]) (tys' := [(kQ, .int), (kM_r, .int), (kM_told, .int)]) hB rfl ht hvm hP hD hK [0, 1, 2] [3] rfl (by decide) (by decide) [2] hk1 hFc rfl rfl rfl
                      clear hz1 hk1 hvm ht hB
                      obtain ⟨x_4629, rfl⟩ : ∃ z, z = r := ⟨_, rfl⟩
                      have hG := hG.trans (lt_eq hru9.symm)
                      have lx_4629 := hw.2
                      have ux_4629 := hw.2
                      refine lv_imul hx hb dX7_worthAt_169 ?_
                      refine lv_topi (fun x_4630 ex_4630 => ?_)
                      have hG := hG.trans (lt_eq ex_4630)
                      refine lv_iadd hx hb dX7_worthAt_170 ?_
                      refine lv_topi (fun x_4631 ex_4631 => ?_)
                      have hG := hG.trans (lt_eq ex_4631)
                      refine lv_istore (lv' := [(5, .int x_4631), (8, .int x_4626), (7, .int x_4624), (6, .int z_4613), (4, .int x_4608), (0, .ref oM), (1, .ref rQ), (2, .int p0), (3, .int p1)]) hx hb dX7_worthAt_171 hl (by decide) rfl (fun ls hl => ?_)
                      obtain ⟨x_4632, ex_4632⟩ : ∃ z : Int32, z = z_4613 + Int32.ofInt 1 := ⟨_, rfl⟩
                      have hG := hG.trans (lt_eq ex_4632)
                      have vx_4632 : x_4632.toInt = z_4613.toInt + 1 := by have q := ti_add (y := 1) ex_4632 rfl kc_1 (by omega) (by omega); omega
                      refine lv_iinc (v := x_4632) (lv' := [(6, .int x_4632), (5, .int x_4631), (8, .int x_4626), (7, .int x_4624), (4, .int x_4608), (0, .ref oM), (1, .ref rQ), (2, .int p0), (3, .int p1)]) hx hb dX7_worthAt_173 hl (k := 3) rfl ex_4632.symm (by decide) rfl (fun ls hl => ?_)
                      refine lv_goto (tgt := 72) hx hb dX7_worthAt_176 (by decide) ?_
                      exact ih_n_4615 x_4632 x_4631 _ _ _  (by first | omega | decide | assumption) (fold_step (v := x_4626) (part := x_4624) hi1_n_4615 (by have q := cx_4624; rw [show 4 * p0.toNatClampNeg + z_4613.toNatClampNeg = 4 * p0.toNatClampNeg + z_4613.toNatClampNeg from by omega]; exact q) lx_4626 (step_c (by omega) (by omega) ex_4631 ex_4630 lx_4629.2) (by have q1 := ti_cl (x := x_4632) vx_4632 (by omega); have q2 := ti_cl (x := z_4613) rfl (by omega); omega)) (by omega) hG (hP.sub [1, 2, 3, 0] rfl) (hD.sub [1, 2, 3, 0] (by decide) rfl) hS (lv_sub hl [0, 1, 4, 5, 6, 7, 8] rfl)
                    · skip
                      have hG := hG.trans (if_pos c_4628)
                      have gc_4628 := ti_eq c_4628 rfl kc_2
                      refine lv_iload hx hb dX7_worthAt_139 (lv_at hl 0 rfl) ?_
                      refine lv_iload hx hb dX7_worthAt_141 (lv_at hl 3 rfl) ?_
                      refine lv_icmp_ge (tgt := 151) hx hb dX7_worthAt_143 (by decide) (fun c_4633 => ?_) (fun c_4633 => ?_)
                      · skip
                        have hG := hG.trans (if_pos c_4633)
                        have gc_4633 := ti_le c_4633 rfl rfl
                        refine lv_iload hx hb dX7_worthAt_151 (lv_at hl 3 rfl) ?_
                        refine lv_istore (lv' := [(5, .int z_4614), (8, .int x_4626), (7, .int x_4624), (6, .int z_4613), (4, .int x_4608), (0, .ref oM), (1, .ref rQ), (2, .int p0), (3, .int p1)]) hx hb dX7_worthAt_153 hl (by decide) rfl (fun ls hl => ?_)
                        refine lv_goto (tgt := 173) hx hb dX7_worthAt_155 (by decide) ?_
                        obtain ⟨x_4634, ex_4634⟩ : ∃ z : Int32, z = z_4613 + Int32.ofInt 1 := ⟨_, rfl⟩
                        have hG := hG.trans (lt_eq ex_4634)
                        have vx_4634 : x_4634.toInt = z_4613.toInt + 1 := by have q := ti_add (y := 1) ex_4634 rfl kc_1 (by omega) (by omega); omega
                        refine lv_iinc (v := x_4634) (lv' := [(6, .int x_4634), (5, .int z_4614), (8, .int x_4626), (7, .int x_4624), (4, .int x_4608), (0, .ref oM), (1, .ref rQ), (2, .int p0), (3, .int p1)]) hx hb dX7_worthAt_173 hl (k := 3) rfl ex_4634.symm (by decide) rfl (fun ls hl => ?_)
                        refine lv_goto (tgt := 72) hx hb dX7_worthAt_176 (by decide) ?_
                        exact ih_n_4615 x_4634 z_4614 _ _ _  (by first | omega | decide | assumption) (fold_step (v := x_4626) (part := x_4624) hi1_n_4615 (by have q := cx_4624; rw [show 4 * p0.toNatClampNeg + z_4613.toNatClampNeg = 4 * p0.toNatClampNeg + z_4613.toNatClampNeg from by omega]; exact q) lx_4626 (by first | exact step_k0 (by omega) (by omega) | exact step_q0 (by omega) (by omega)) (by have q1 := ti_cl (x := x_4634) vx_4634 (by omega); have q2 := ti_cl (x := z_4613) rfl (by omega); omega)) (by omega) hG (hP.sub [0, 1, 2, 3] rfl) (hD.sub [0, 1, 2, 3] (by decide) rfl) hS (lv_sub hl [0, 1, 4, 5, 6, 7, 8] rfl)
                      · skip
                        have hG := hG.trans (if_neg c_4633)
                        have gc_4633 := ti_nle c_4633 rfl rfl
                        refine lv_iload hx hb dX7_worthAt_146 (lv_at hl 0 rfl) ?_
                        refine lv_goto (tgt := 153) hx hb dX7_worthAt_148 (by decide) ?_
                        refine lv_istore (lv' := [(5, .int x_4626), (8, .int x_4626), (7, .int x_4624), (6, .int z_4613), (4, .int x_4608), (0, .ref oM), (1, .ref rQ), (2, .int p0), (3, .int p1)]) hx hb dX7_worthAt_153 hl (by decide) rfl (fun ls hl => ?_)
                        refine lv_goto (tgt := 173) hx hb dX7_worthAt_155 (by decide) ?_
                        obtain ⟨x_4635, ex_4635⟩ : ∃ z : Int32, z = z_4613 + Int32.ofInt 1 := ⟨_, rfl⟩
                        have hG := hG.trans (lt_eq ex_4635)
                        have vx_4635 : x_4635.toInt = z_4613.toInt + 1 := by have q := ti_add (y := 1) ex_4635 rfl kc_1 (by omega) (by omega); omega
                        refine lv_iinc (v := x_4635) (lv' := [(6, .int x_4635), (5, .int x_4626), (8, .int x_4626), (7, .int x_4624), (4, .int x_4608), (0, .ref oM), (1, .ref rQ), (2, .int p0), (3, .int p1)]) hx hb dX7_worthAt_173 hl (k := 3) rfl ex_4635.symm (by decide) rfl (fun ls hl => ?_)
                        refine lv_goto (tgt := 72) hx hb dX7_worthAt_176 (by decide) ?_
                        exact ih_n_4615 x_4635 x_4626 _ _ _  (by first | omega | decide | assumption) (fold_step (v := x_4626) (part := x_4624) hi1_n_4615 (by have q := cx_4624; rw [show 4 * p0.toNatClampNeg + z_4613.toNatClampNeg = 4 * p0.toNatClampNeg + z_4613.toNatClampNeg from by omega]; exact q) lx_4626 (by first | exact step_k1 (by omega) (by omega) | exact step_q1 (by omega) (by omega)) (by have q1 := ti_cl (x := x_4635) vx_4635 (by omega); have q2 := ti_cl (x := z_4613) rfl (by omega); omega)) (by omega) hG (hP.sub [0, 1, 2, 3] rfl) (hD.sub [0, 1, 2, 3] (by decide) rfl) hS (lv_sub hl [0, 1, 4, 5, 6, 7, 8] rfl)
                  · skip
                    have hG := hG.trans (if_pos c_4627)
                    have gc_4627 := ti_eq c_4627 rfl kc_1
                    exfalso; clear hG; omega
            exact key_n_4615 (((4 - (0 : Int32).toInt).toNat) + 1) 0 0 _ _ _  (by first | omega | decide | assumption | (have q0 := kc_0; have q1 := kc_1; omega) | (show _ = startV _; rw [show (fM_r (9 + p0.toNatClampNeg)).toInt = 1 from by omega]; rfl) | (show _ = startV _; rw [show (fM_r (9 + p0.toNatClampNeg)).toInt = 2 from by omega]; rfl) | (show _ = startV _; rw [show (fM_r (9 + p0.toNatClampNeg)).toInt = 3 from by omega]; rfl)) (by first | omega | decide | assumption | (have q0 := kc_0; have q1 := kc_1; omega) | (show _ = startV _; rw [show (fM_r (9 + p0.toNatClampNeg)).toInt = 1 from by omega]; rfl) | (show _ = startV _; rw [show (fM_r (9 + p0.toNatClampNeg)).toInt = 2 from by omega]; rfl) | (show _ = startV _; rw [show (fM_r (9 + p0.toNatClampNeg)).toInt = 3 from by omega]; rfl)) (by omega) hG hP hD hS hl
          · skip
            have hG := hG.trans (if_pos c_4612)
            have gc_4612 := ti_eq c_4612 rfl kc_1
            refine lv_ldc hx hb hown (hts _ wd_654) dX7_worthAt_61 ?_
            refine lv_goto (tgt := 67) hx hb dX7_worthAt_63 (by decide) ?_
            refine lv_istore (lv' := [(5, .int (-100000000)), (4, .int x_4608), (0, .ref oM), (1, .ref rQ), (2, .int p0), (3, .int p1)]) hx hb dX7_worthAt_67 hl (by decide) rfl (fun ls hl => ?_)
            refine lv_iconst (v := 0) hx hb dX7_worthAt_69 (by decide) ?_
            refine lv_istore (lv' := [(6, .int 0), (5, .int (-100000000)), (4, .int x_4608), (0, .ref oM), (1, .ref rQ), (2, .int p0), (3, .int p1)]) hx hb dX7_worthAt_70 hl (by decide) rfl (fun ls hl => ?_)
            have hl := lv_sub hl (l' := [(6, .int 0), (5, .int (-100000000)), (4, .int x_4608), (0, .ref oM), (1, .ref rQ), (2, .int p0), (3, .int p1)]) [0, 1, 2, 3, 4, 5, 6] rfl
            have key_n_4638 : ∀ (n_4638 : Nat) (z_4636 : Int32) (z_4637 : Int32) (H : Heap) (locs : List Loc) (ls : Array Slot), (0 ≤ z_4636.toInt ∧ z_4636.toInt ≤ (fM_r (27 + p0.toNatClampNeg)).toInt) → (z_4637 = foldV (fM_r (9 + p0.toNatClampNeg)).toInt (startV (fM_r (9 + p0.toNatClampNeg)).toInt) (VF fM_r fM_told fQ iM_scale n9 p0.toNatClampNeg) (WF fM_r fM_told fQ p0.toNatClampNeg) z_4636.toNatClampNeg) → (4 - z_4636.toInt).toNat < n_4638 → (PX7_worthAt (n9 + 1) iM_night fM_r fM_told iM_scale fQ p0 p1 = HX7_worthAt_1 (PX7_worthAt n9) fM_r fM_told iM_scale iM_night fQ p0 p1 x_4608 n_4638 z_4636 z_4637) → va_P (dC, dI) vwCl [(oc7 oM iM_thrown rM_tape iM_taped iM_size iM_at iM_end iM_token iM_whole iM_nameSize iM_fault iM_place iM_trouble rM_letters iM_failed iM_hasCourt rM_r rM_fresh rM_told rM_read rM_st rM_undone rM_kept iM_undos iM_images rM_fresher iM_fresherSize iM_scale iM_night rM_heardRow rM_cutRow iM_breaths iM_cutMany iM_allBreaths rM_trial rM_words iM_fewestBreaths iM_orderMany iM_orderSum iM_leastOrder rM_often iM_setMany iM_someOf iM_allOf iM_allWeight iM_enoughWeight iM_worthSum iM_firstRest iM_leastDrawn), (arI rM_r kM_r 287 fM_r), (arI rM_told kM_told 90 fM_told), (arI rQ kQ 90 fQ)] H → va_D A [(oc7 oM iM_thrown rM_tape iM_taped iM_size iM_at iM_end iM_token iM_whole iM_nameSize iM_fault iM_place iM_trouble rM_letters iM_failed iM_hasCourt rM_r rM_fresh rM_told rM_read rM_st rM_undone rM_kept iM_undos iM_images rM_fresher iM_fresherSize iM_scale iM_night rM_heardRow rM_cutRow iM_breaths iM_cutMany iM_allBreaths rM_trial rM_words iM_fewestBreaths iM_orderMany iM_orderSum iM_leastOrder rM_often iM_setMany iM_someOf iM_allOf iM_allWeight iM_enoughWeight iM_worthSum iM_firstRest iM_leastDrawn), (arI rM_r kM_r 287 fM_r), (arI rM_told kM_told 90 fM_told), (arI rQ kQ 90 fQ)] → va_S A s.heap H locs → lv_has ls 9 [(6, .int z_4636), (5, .int z_4637), (4, .int x_4608), (0, .ref oM), (1, .ref rQ), (2, .int p0), (3, .int p1)] → W p l e (headSpec (Cond.code yX7_worthAt cX7_worthAt 9 (some .int) :: wG) ({ frames := 1 + (n9 + 1), cells := 0, slots := 0, locals := 10 + 28 * (n9 + 1) })).room s m ([.ref oM, .ref rQ, .int p0, .int p1] : List Value).toArray below meth c H locs 0 0 (MQ below (va_Qi (fun (r : Int32) (_ : Nat) => (True ∧ (r = rval fM_r fM_told fQ iM_scale (n9 + 1) p0.toNatClampNeg)) ∧ PX7_worthAt (n9 + 1) iM_night fM_r fM_told iM_scale fQ p0 p1 = r) (fun (_ : Nat) (t : State) => Bw dC dI A [(oc7 oM iM_thrown rM_tape iM_taped iM_size iM_at iM_end iM_token iM_whole iM_nameSize iM_fault iM_place iM_trouble rM_letters iM_failed iM_hasCourt rM_r rM_fresh rM_told rM_read rM_st rM_undone rM_kept iM_undos iM_images rM_fresher iM_fresherSize iM_scale iM_night rM_heardRow rM_cutRow iM_breaths iM_cutMany iM_allBreaths rM_trial rM_words iM_fewestBreaths iM_orderMany iM_orderSum iM_leastOrder rM_often iM_setMany iM_someOf iM_allOf iM_allWeight iM_enoughWeight iM_worthSum iM_firstRest iM_leastDrawn), (arI rM_r kM_r 287 fM_r), (arI rM_told kM_told 90 fM_told), (arI rQ kQ 90 fQ)] [(kM_r, .int), (kM_told, .int), (kQ, .int)] t) A) ([.ref oM, .ref rQ, .int p0, .int p1] : List Value).toArray s 0 0 A) (F0 m 72 ls []) := by
              intro n_4638
              induction n_4638 with
              | zero => intro z_4636 z_4637 H locs ls hi0_n_4638 hi1_n_4638 hm; exact absurd hm (by omega)
              | succ n_4638 ih_n_4638 =>
                intro z_4636 z_4637 H locs ls hi0_n_4638 hi1_n_4638 hm hG hP hD hS hl
                have hG := hG.trans (HX7_worthAt_1_eq _ _ _ _ _ _ _ _ _ _ _ _)
                refine lv_iload hx hb dX7_worthAt_72 (lv_at hl 0 rfl) ?_
                refine lv_aload_n hx hb dX7_worthAt_74 rfl (lv_at hl 3 rfl) ?_
                refine va_get (D := (dC, dI)) (ci := 7) (v := .ref rM_r) (C := RX7) (T := TX7) (N := 48) hx hb hts inX7 hown hK hP 0 rfl rfl 15 (by decide) (hts _ wd_155) (fun _ h9 => h9) rfl dX7_worthAt_75 ?_
                refine lv_bipush (v := 27) hx hb dX7_worthAt_78 (by decide) ?_
                refine lv_iload_n hx hb dX7_worthAt_80 rfl (lv_at hl 5 rfl) ?_
                refine lv_iadd hx hb dX7_worthAt_81 ?_
                refine lv_topi (fun x_4639 ex_4639 => ?_)
                have hG := hG.trans (lt_eq ex_4639)
                have vx_4639 : x_4639.toInt = p0.toInt + 27 := by have q := ti_add ex_4639 kc_27 rfl (by omega) (by omega); omega
                refine va_iald hx hb hK hP 1 0 rfl rfl (ti_in vx_4639 (by omega) (by omega)) dX7_worthAt_82 ?_
                refine lv_topi (fun x_4640 ex_4640 => ?_)
                have hG := hG.trans (lt_eq ex_4640)
                have kx_4640 : (fM_r x_4639.toNatClampNeg).toInt = x_4640.toInt := by rw [ex_4640]
                have cx_4640 : (fM_r (27 + p0.toNatClampNeg)).toInt = x_4640.toInt := by rw [show 27 + p0.toNatClampNeg = x_4639.toNatClampNeg from by have q9 := ti_cl (x := x_4639) vx_4639 (by omega); have q_p0 := ti_cl (x := p0) rfl (by omega); omega]; exact kx_4640
                have sx_4640 := r_R.many x_4639.toNatClampNeg (by have q9 := ti_cl (x := x_4639) vx_4639 (by omega); omega) (by have q9 := ti_cl (x := x_4639) vx_4639 (by omega); omega)
                refine lv_icmp_ge (tgt := 179) hx hb dX7_worthAt_83 (by decide) (fun c_4641 => ?_) (fun c_4641 => ?_)
                · skip
                  have hG := hG.trans (if_pos c_4641)
                  have gc_4641 := ti_le c_4641 rfl rfl
                  refine lv_iload hx hb dX7_worthAt_179 (lv_at hl 2 rfl) ?_
                  refine lv_iconst (v := 3) hx hb dX7_worthAt_181 (by decide) ?_
                  refine lv_icmp_ne (tgt := 196) hx hb dX7_worthAt_182 (by decide) (fun c_4642 => ?_) (fun c_4642 => ?_)
                  · skip
                    have hG := hG.trans (if_neg c_4642)
                    have gc_4642 := ti_ne c_4642 rfl kc_3
                    refine lv_iload hx hb dX7_worthAt_196 (lv_at hl 1 rfl) ?_
                    exact W.iret hx hb hr (fun t ht hW => ⟨⟨_, 0, rfl, ⟨⟨trivial, (rval_fold (by omega) (by omega) hi1_n_4638 (by have q1 := ti_cl (x := z_4636) rfl (by omega); omega))⟩, hG⟩, Bw.to (hP.sub [0, 1, 2, 3] rfl) (hD.sub [0, 1, 2, 3] (by decide) rfl) (hK.sub [0, 1, 2] rfl) ht hW⟩, hS.F ht⟩) hS.2.2 dX7_worthAt_198
                  · skip
                    have hG := hG.trans (if_pos c_4642)
                    have gc_4642 := ti_eq c_4642 rfl kc_3
                    exfalso; clear hG; omega
                · skip
                  have hG := hG.trans (if_neg c_4641)
                  have gc_4641 := ti_nle c_4641 rfl rfl
                  refine lv_aload_n hx hb dX7_worthAt_86 rfl (lv_at hl 4 rfl) ?_
                  refine lv_iconst (v := 4) hx hb dX7_worthAt_87 (by decide) ?_
                  refine lv_iload_n hx hb dX7_worthAt_88 rfl (lv_at hl 5 rfl) ?_
                  refine lv_imul hx hb dX7_worthAt_89 ?_
                  refine lv_topi (fun x_4643 ex_4643 => ?_)
                  have hG := hG.trans (lt_eq ex_4643)
                  have vx_4643 : x_4643.toInt = 4 * p0.toInt := by have q := ti_mul ex_4643 kc_4 rfl (by omega) (by omega); omega
                  refine lv_iload hx hb dX7_worthAt_90 (lv_at hl 0 rfl) ?_
                  refine lv_iadd hx hb dX7_worthAt_92 ?_
                  refine lv_topi (fun x_4644 ex_4644 => ?_)
                  have hG := hG.trans (lt_eq ex_4644)
                  have vx_4644 : x_4644.toInt = 4 * p0.toInt + z_4636.toInt := by have q := ti_add ex_4644 vx_4643 rfl (by omega) (by omega); omega
                  refine va_iald hx hb hK hP 3 2 rfl rfl (ti_in vx_4644 (by omega) (by omega)) dX7_worthAt_93 ?_
                  refine lv_topi (fun x_4645 ex_4645 => ?_)
                  have hG := hG.trans (lt_eq ex_4645)
                  have kx_4645 : (fQ x_4644.toNatClampNeg).toInt = x_4645.toInt := by rw [ex_4645]
                  have cx_4645 : (fQ (4 * p0.toNatClampNeg + z_4636.toNatClampNeg)).toInt = x_4645.toInt := by rw [show 4 * p0.toNatClampNeg + z_4636.toNatClampNeg = x_4644.toNatClampNeg from by have q9 := ti_cl (x := x_4644) vx_4644 (by omega); have q_p0 := ti_cl (x := p0) rfl (by omega); have q_z_4636 := ti_cl (x := z_4636) rfl (by omega); omega]; exact kx_4645
                  have wx_4645 := r_Q.lt p0.toNatClampNeg (z_4636.toNatClampNeg) (by have q_1 := ti_cl (x := p0) rfl (by omega); have q_2 := ti_cl (x := z_4636) rfl (by omega); omega) (by have q_1 := ti_cl (x := p0) rfl (by omega); have q_2 := ti_cl (x := z_4636) rfl (by omega); omega)
                  have wx_4645 : 0 ≤ x_4645.toInt ∧ x_4645.toInt < p0.toInt := by have q_1 := ti_cl (x := p0) rfl (by omega); have q_2 := ti_cl (x := z_4636) rfl (by omega); have q_3 := cx_4645; rw [show 4 * p0.toNatClampNeg + (z_4636.toNatClampNeg) = 4 * p0.toNatClampNeg + z_4636.toNatClampNeg from by omega] at wx_4645; omega
                  refine lv_istore (lv' := [(7, .int x_4645), (6, .int z_4636), (5, .int z_4637), (4, .int x_4608), (0, .ref oM), (1, .ref rQ), (2, .int p0), (3, .int p1)]) hx hb dX7_worthAt_94 hl (by decide) rfl (fun ls hl => ?_)
                  refine lv_aload_n hx hb dX7_worthAt_96 rfl (lv_at hl 4 rfl) ?_
                  refine lv_aload_n hx hb dX7_worthAt_97 rfl (lv_at hl 5 rfl) ?_
                  refine lv_iload hx hb dX7_worthAt_98 (lv_at hl 0 rfl) ?_
                  refine lv_iload_n hx hb dX7_worthAt_100 rfl (lv_at hl 7 rfl) ?_
                  refine lv_iconst (v := 1) hx hb dX7_worthAt_101 (by decide) ?_
                  refine lv_iadd hx hb dX7_worthAt_102 ?_
                  refine lv_topi (fun x_4646 ex_4646 => ?_)
                  have hG := hG.trans (lt_eq ex_4646)
                  have vx_4646 : x_4646.toInt = p1.toInt + 1 := by have q := ti_add ex_4646 rfl kc_1 (by omega) (by omega); omega
                  have hFc := va_free (wc := [(oc7 oM iM_thrown rM_tape iM_taped iM_size iM_at iM_end iM_token iM_whole iM_nameSize iM_fault iM_place iM_trouble rM_letters iM_failed iM_hasCourt rM_r rM_fresh rM_told rM_read rM_st rM_undone rM_kept iM_undos iM_images rM_fresher iM_fresherSize iM_scale iM_night rM_heardRow rM_cutRow iM_breaths iM_cutMany iM_allBreaths rM_trial rM_words iM_fewestBreaths iM_orderMany iM_orderSum iM_leastOrder rM_often iM_setMany iM_someOf iM_allOf iM_allWeight iM_enoughWeight iM_worthSum iM_firstRest iM_leastDrawn), (arI rM_r kM_r 287 fM_r), (arI rM_told kM_told 90 fM_told), (arI rQ kQ 90 fQ)]) hD hS hA [0, 1, 2, 3] rfl
                  refine va_calli (va_runV (As := [.ref rQ, .int x_4645, .int x_4646]) (rest := []) ⟨hx, hb, hml, hown, hts⟩ (ih9 _ oM iM_thrown rM_tape iM_taped iM_size iM_at iM_end iM_token iM_whole iM_nameSize iM_fault iM_place iM_trouble rM_letters iM_failed iM_hasCourt rM_r fM_r kM_r rM_fresh rM_told fM_told kM_told rM_read rM_st rM_undone rM_kept iM_undos iM_images rM_fresher iM_fresherSize iM_scale iM_night rM_heardRow rM_cutRow iM_breaths iM_cutMany iM_allBreaths rM_trial rM_words iM_fewestBreaths iM_orderMany iM_orderSum iM_leastOrder rM_often iM_setMany iM_someOf iM_allOf iM_allWeight iM_enoughWeight iM_worthSum iM_firstRest iM_leastDrawn rQ fQ kQ x_4645 x_4646 (by first | omega | decide) (by first | omega | decide) (by first | omega | decide) (by first | omega | decide) (by first | omega | decide) (by first | omega | decide) (by first | omega | decide) (by first | omega | decide) (by first | omega | decide) (by first | omega | decide) (by assumption) (by assumption) (by assumption) (by assumption) (by first | omega | decide | assumption | (have q0 := kc_0; have q1 := kc_1; omega) | (intro h; exact absurd h (by decide))) (by first | omega | decide | assumption | (have q0 := kc_0; have q1 := kc_1; omega) | (intro h; exact absurd h (by decide))) (by first | omega | decide | assumption | (have q0 := kc_0; have q1 := kc_1; omega) | (intro h; exact absurd h (by decide))) (by first | omega | decide | assumption | (have q0 := kc_0; have q1 := kc_1; omega) | (intro h; exact absurd h (by decide)))) (cwV 3 hts (wd_V wd_649 wd_650 wd_651 wd_5 (wd_c wd_652)) rfl rfl rfl (by decide +kernel) ⟨(show (1 + n9) + 1 ≤ 1 + (n9 + 1) by omega), (show 8 + (9 + 11) + (10 + 28 * n9) ≤ 10 + 28 * (n9 + 1) by omega)⟩) ⟨Pw.fb, va_recv hK hP (ci := 7) (q0 := 0) rfl rfl, fun U hU hW => Pw.to (hP.sub [0, 1, 2, 3] rfl) (hD.sub [0, 1, 2, 3] (by decide) rfl) (hK.sub [0, 1, 2] rfl) hE hS hFc hU hW⟩ rfl rfl hl.1 rfl (lv_room (Nat.le_of_ble_eq_true rfl)) dX7_worthAt_103 ⟨Nat.le_of_ble_eq_true rfl, Nat.le_of_ble_eq_true rfl⟩) hS (fun q _ h => hFc q h) hFc (fun r u t H locs ht hvm hw hB hz1 hk1 hS => ?_)
                  have hru9 := hw.2
                  have hw := hw.1
                  obtain ⟨hP, hD, hK⟩ := Bw.go (ws' := [(oc7 oM iM_thrown rM_tape iM_taped iM_size iM_at iM_end iM_token iM_whole iM_nameSize iM_fault iM_place iM_trouble rM_letters iM_failed iM_hasCourt rM_r rM_fresh rM_told rM_read rM_st rM_undone rM_kept iM_undos iM_images rM_fresher iM_fresherSize iM_scale iM_night rM_heardRow rM_cutRow iM_breaths iM_cutMany iM_allBreaths rM_trial rM_words iM_fewestBreaths iM_orderMany iM_orderSum iM_leastOrder rM_often iM_setMany iM_someOf iM_allOf iM_allWeight iM_enoughWeight iM_worthSum iM_firstRest iM_leastDrawn), (arI rM_r kM_r 287 fM_r), (arI rM_told kM_told 90 fM_told), (arI rQ kQ 90 fQ)]) (tys' := [(kM_r, .int), (kM_told, .int), (kQ, .int)]) hB rfl ht hvm hP hD hK [0, 1, 2, 3] [] rfl (by decide) (by decide) [] hk1 hFc rfl rfl rfl
                  clear hz1 hk1 hvm ht hB
                  obtain ⟨x_4647, rfl⟩ : ∃ z, z = r := ⟨_, rfl⟩
                  have hG := hG.trans (lt_eq hru9.symm)
                  have lx_4647 := hw.2
                  refine lv_istore (lv' := [(8, .int x_4647), (7, .int x_4645), (6, .int z_4636), (5, .int z_4637), (4, .int x_4608), (0, .ref oM), (1, .ref rQ), (2, .int p0), (3, .int p1)]) hx hb dX7_worthAt_106 hl (by decide) rfl (fun ls hl => ?_)
                  refine lv_iload hx hb dX7_worthAt_108 (lv_at hl 4 rfl) ?_
                  refine lv_iconst (v := 1) hx hb dX7_worthAt_110 (by decide) ?_
                  refine lv_icmp_ne (tgt := 133) hx hb dX7_worthAt_111 (by decide) (fun c_4648 => ?_) (fun c_4648 => ?_)
                  · skip
                    have hG := hG.trans (if_neg c_4648)
                    have gc_4648 := ti_ne c_4648 rfl kc_1
                    exfalso; clear hG; omega
                  · skip
                    have hG := hG.trans (if_pos c_4648)
                    have gc_4648 := ti_eq c_4648 rfl kc_1
                    refine lv_iload hx hb dX7_worthAt_114 (lv_at hl 0 rfl) ?_
                    refine lv_iload hx hb dX7_worthAt_116 (lv_at hl 3 rfl) ?_
                    refine lv_icmp_le (tgt := 126) hx hb dX7_worthAt_118 (by decide) (fun c_4649 => ?_) (fun c_4649 => ?_)
                    · skip
                      have hG := hG.trans (if_pos c_4649)
                      have gc_4649 := ti_le c_4649 rfl rfl
                      refine lv_iload hx hb dX7_worthAt_126 (lv_at hl 3 rfl) ?_
                      refine lv_istore (lv' := [(5, .int z_4637), (8, .int x_4647), (7, .int x_4645), (6, .int z_4636), (4, .int x_4608), (0, .ref oM), (1, .ref rQ), (2, .int p0), (3, .int p1)]) hx hb dX7_worthAt_128 hl (by decide) rfl (fun ls hl => ?_)
                      refine lv_goto (tgt := 173) hx hb dX7_worthAt_130 (by decide) ?_
                      obtain ⟨x_4650, ex_4650⟩ : ∃ z : Int32, z = z_4636 + Int32.ofInt 1 := ⟨_, rfl⟩
                      have hG := hG.trans (lt_eq ex_4650)
                      have vx_4650 : x_4650.toInt = z_4636.toInt + 1 := by have q := ti_add (y := 1) ex_4650 rfl kc_1 (by omega) (by omega); omega
                      refine lv_iinc (v := x_4650) (lv' := [(6, .int x_4650), (5, .int z_4637), (8, .int x_4647), (7, .int x_4645), (4, .int x_4608), (0, .ref oM), (1, .ref rQ), (2, .int p0), (3, .int p1)]) hx hb dX7_worthAt_173 hl (k := 3) rfl ex_4650.symm (by decide) rfl (fun ls hl => ?_)
                      refine lv_goto (tgt := 72) hx hb dX7_worthAt_176 (by decide) ?_
                      exact ih_n_4638 x_4650 z_4637 _ _ _  (by first | omega | decide | assumption) (fold_step (v := x_4647) (part := x_4645) hi1_n_4638 (by have q := cx_4645; rw [show 4 * p0.toNatClampNeg + z_4636.toNatClampNeg = 4 * p0.toNatClampNeg + z_4636.toNatClampNeg from by omega]; exact q) lx_4647 (by first | exact step_k0 (by omega) (by omega) | exact step_q0 (by omega) (by omega)) (by have q1 := ti_cl (x := x_4650) vx_4650 (by omega); have q2 := ti_cl (x := z_4636) rfl (by omega); omega)) (by omega) hG (hP.sub [0, 1, 2, 3] rfl) (hD.sub [0, 1, 2, 3] (by decide) rfl) hS (lv_sub hl [0, 1, 4, 5, 6, 7, 8] rfl)
                    · skip
                      have hG := hG.trans (if_neg c_4649)
                      have gc_4649 := ti_nle c_4649 rfl rfl
                      refine lv_iload hx hb dX7_worthAt_121 (lv_at hl 0 rfl) ?_
                      refine lv_goto (tgt := 128) hx hb dX7_worthAt_123 (by decide) ?_
                      refine lv_istore (lv' := [(5, .int x_4647), (8, .int x_4647), (7, .int x_4645), (6, .int z_4636), (4, .int x_4608), (0, .ref oM), (1, .ref rQ), (2, .int p0), (3, .int p1)]) hx hb dX7_worthAt_128 hl (by decide) rfl (fun ls hl => ?_)
                      refine lv_goto (tgt := 173) hx hb dX7_worthAt_130 (by decide) ?_
                      obtain ⟨x_4651, ex_4651⟩ : ∃ z : Int32, z = z_4636 + Int32.ofInt 1 := ⟨_, rfl⟩
                      have hG := hG.trans (lt_eq ex_4651)
                      have vx_4651 : x_4651.toInt = z_4636.toInt + 1 := by have q := ti_add (y := 1) ex_4651 rfl kc_1 (by omega) (by omega); omega
                      refine lv_iinc (v := x_4651) (lv' := [(6, .int x_4651), (5, .int x_4647), (8, .int x_4647), (7, .int x_4645), (4, .int x_4608), (0, .ref oM), (1, .ref rQ), (2, .int p0), (3, .int p1)]) hx hb dX7_worthAt_173 hl (k := 3) rfl ex_4651.symm (by decide) rfl (fun ls hl => ?_)
                      refine lv_goto (tgt := 72) hx hb dX7_worthAt_176 (by decide) ?_
                      exact ih_n_4638 x_4651 x_4647 _ _ _  (by first | omega | decide | assumption) (fold_step (v := x_4647) (part := x_4645) hi1_n_4638 (by have q := cx_4645; rw [show 4 * p0.toNatClampNeg + z_4636.toNatClampNeg = 4 * p0.toNatClampNeg + z_4636.toNatClampNeg from by omega]; exact q) lx_4647 (by first | exact step_k1 (by omega) (by omega) | exact step_q1 (by omega) (by omega)) (by have q1 := ti_cl (x := x_4651) vx_4651 (by omega); have q2 := ti_cl (x := z_4636) rfl (by omega); omega)) (by omega) hG (hP.sub [0, 1, 2, 3] rfl) (hD.sub [0, 1, 2, 3] (by decide) rfl) hS (lv_sub hl [0, 1, 4, 5, 6, 7, 8] rfl)
            exact key_n_4638 (((4 - (0 : Int32).toInt).toNat) + 1) 0 (-100000000) _ _ _  (by first | omega | decide | assumption | (have q0 := kc_m100000000; have q1 := kc_0; have q2 := kc_1; omega) | (show _ = startV _; rw [show (fM_r (9 + p0.toNatClampNeg)).toInt = 1 from by omega]; rfl) | (show _ = startV _; rw [show (fM_r (9 + p0.toNatClampNeg)).toInt = 2 from by omega]; rfl) | (show _ = startV _; rw [show (fM_r (9 + p0.toNatClampNeg)).toInt = 3 from by omega]; rfl)) (by first | omega | decide | assumption | (have q0 := kc_m100000000; have q1 := kc_0; have q2 := kc_1; omega) | (show _ = startV _; rw [show (fM_r (9 + p0.toNatClampNeg)).toInt = 1 from by omega]; rfl) | (show _ = startV _; rw [show (fM_r (9 + p0.toNatClampNeg)).toInt = 2 from by omega]; rfl) | (show _ = startV _; rw [show (fM_r (9 + p0.toNatClampNeg)).toInt = 3 from by omega]; rfl)) (by omega) hG hP hD hS hl
        · skip
          have hG := hG.trans (if_pos c_4611)
          have gc_4611 := ti_eq c_4611 rfl kc_2
          refine lv_ldc hx hb hown (hts _ wd_653) dX7_worthAt_50 ?_
          refine lv_goto (tgt := 67) hx hb dX7_worthAt_52 (by decide) ?_
          refine lv_istore (lv' := [(5, .int 100000000), (4, .int x_4608), (0, .ref oM), (1, .ref rQ), (2, .int p0), (3, .int p1)]) hx hb dX7_worthAt_67 hl (by decide) rfl (fun ls hl => ?_)
          refine lv_iconst (v := 0) hx hb dX7_worthAt_69 (by decide) ?_
          refine lv_istore (lv' := [(6, .int 0), (5, .int 100000000), (4, .int x_4608), (0, .ref oM), (1, .ref rQ), (2, .int p0), (3, .int p1)]) hx hb dX7_worthAt_70 hl (by decide) rfl (fun ls hl => ?_)
          have hl := lv_sub hl (l' := [(6, .int 0), (5, .int 100000000), (4, .int x_4608), (0, .ref oM), (1, .ref rQ), (2, .int p0), (3, .int p1)]) [0, 1, 2, 3, 4, 5, 6] rfl
          have key_n_4654 : ∀ (n_4654 : Nat) (z_4652 : Int32) (z_4653 : Int32) (H : Heap) (locs : List Loc) (ls : Array Slot), (0 ≤ z_4652.toInt ∧ z_4652.toInt ≤ (fM_r (27 + p0.toNatClampNeg)).toInt) → (z_4653 = foldV (fM_r (9 + p0.toNatClampNeg)).toInt (startV (fM_r (9 + p0.toNatClampNeg)).toInt) (VF fM_r fM_told fQ iM_scale n9 p0.toNatClampNeg) (WF fM_r fM_told fQ p0.toNatClampNeg) z_4652.toNatClampNeg) → (4 - z_4652.toInt).toNat < n_4654 → (PX7_worthAt (n9 + 1) iM_night fM_r fM_told iM_scale fQ p0 p1 = HX7_worthAt_0 (PX7_worthAt n9) fM_r fM_told iM_scale iM_night fQ p0 p1 x_4608 n_4654 z_4652 z_4653) → va_P (dC, dI) vwCl [(oc7 oM iM_thrown rM_tape iM_taped iM_size iM_at iM_end iM_token iM_whole iM_nameSize iM_fault iM_place iM_trouble rM_letters iM_failed iM_hasCourt rM_r rM_fresh rM_told rM_read rM_st rM_undone rM_kept iM_undos iM_images rM_fresher iM_fresherSize iM_scale iM_night rM_heardRow rM_cutRow iM_breaths iM_cutMany iM_allBreaths rM_trial rM_words iM_fewestBreaths iM_orderMany iM_orderSum iM_leastOrder rM_often iM_setMany iM_someOf iM_allOf iM_allWeight iM_enoughWeight iM_worthSum iM_firstRest iM_leastDrawn), (arI rM_r kM_r 287 fM_r), (arI rM_told kM_told 90 fM_told), (arI rQ kQ 90 fQ)] H → va_D A [(oc7 oM iM_thrown rM_tape iM_taped iM_size iM_at iM_end iM_token iM_whole iM_nameSize iM_fault iM_place iM_trouble rM_letters iM_failed iM_hasCourt rM_r rM_fresh rM_told rM_read rM_st rM_undone rM_kept iM_undos iM_images rM_fresher iM_fresherSize iM_scale iM_night rM_heardRow rM_cutRow iM_breaths iM_cutMany iM_allBreaths rM_trial rM_words iM_fewestBreaths iM_orderMany iM_orderSum iM_leastOrder rM_often iM_setMany iM_someOf iM_allOf iM_allWeight iM_enoughWeight iM_worthSum iM_firstRest iM_leastDrawn), (arI rM_r kM_r 287 fM_r), (arI rM_told kM_told 90 fM_told), (arI rQ kQ 90 fQ)] → va_S A s.heap H locs → lv_has ls 9 [(6, .int z_4652), (5, .int z_4653), (4, .int x_4608), (0, .ref oM), (1, .ref rQ), (2, .int p0), (3, .int p1)] → W p l e (headSpec (Cond.code yX7_worthAt cX7_worthAt 9 (some .int) :: wG) ({ frames := 1 + (n9 + 1), cells := 0, slots := 0, locals := 10 + 28 * (n9 + 1) })).room s m ([.ref oM, .ref rQ, .int p0, .int p1] : List Value).toArray below meth c H locs 0 0 (MQ below (va_Qi (fun (r : Int32) (_ : Nat) => (True ∧ (r = rval fM_r fM_told fQ iM_scale (n9 + 1) p0.toNatClampNeg)) ∧ PX7_worthAt (n9 + 1) iM_night fM_r fM_told iM_scale fQ p0 p1 = r) (fun (_ : Nat) (t : State) => Bw dC dI A [(oc7 oM iM_thrown rM_tape iM_taped iM_size iM_at iM_end iM_token iM_whole iM_nameSize iM_fault iM_place iM_trouble rM_letters iM_failed iM_hasCourt rM_r rM_fresh rM_told rM_read rM_st rM_undone rM_kept iM_undos iM_images rM_fresher iM_fresherSize iM_scale iM_night rM_heardRow rM_cutRow iM_breaths iM_cutMany iM_allBreaths rM_trial rM_words iM_fewestBreaths iM_orderMany iM_orderSum iM_leastOrder rM_often iM_setMany iM_someOf iM_allOf iM_allWeight iM_enoughWeight iM_worthSum iM_firstRest iM_leastDrawn), (arI rM_r kM_r 287 fM_r), (arI rM_told kM_told 90 fM_told), (arI rQ kQ 90 fQ)] [(kM_r, .int), (kM_told, .int), (kQ, .int)] t) A) ([.ref oM, .ref rQ, .int p0, .int p1] : List Value).toArray s 0 0 A) (F0 m 72 ls []) := by
            intro n_4654
            induction n_4654 with
            | zero => intro z_4652 z_4653 H locs ls hi0_n_4654 hi1_n_4654 hm; exact absurd hm (by omega)
            | succ n_4654 ih_n_4654 =>
              intro z_4652 z_4653 H locs ls hi0_n_4654 hi1_n_4654 hm hG hP hD hS hl
              have hG := hG.trans (HX7_worthAt_0_eq _ _ _ _ _ _ _ _ _ _ _ _)
              refine lv_iload hx hb dX7_worthAt_72 (lv_at hl 0 rfl) ?_
              refine lv_aload_n hx hb dX7_worthAt_74 rfl (lv_at hl 3 rfl) ?_
              refine va_get (D := (dC, dI)) (ci := 7) (v := .ref rM_r) (C := RX7) (T := TX7) (N := 48) hx hb hts inX7 hown hK hP 0 rfl rfl 15 (by decide) (hts _ wd_155) (fun _ h9 => h9) rfl dX7_worthAt_75 ?_
              refine lv_bipush (v := 27) hx hb dX7_worthAt_78 (by decide) ?_
              refine lv_iload_n hx hb dX7_worthAt_80 rfl (lv_at hl 5 rfl) ?_
              refine lv_iadd hx hb dX7_worthAt_81 ?_
              refine lv_topi (fun x_4655 ex_4655 => ?_)
              have hG := hG.trans (lt_eq ex_4655)
              have vx_4655 : x_4655.toInt = p0.toInt + 27 := by have q := ti_add ex_4655 kc_27 rfl (by omega) (by omega); omega
              refine va_iald hx hb hK hP 1 0 rfl rfl (ti_in vx_4655 (by omega) (by omega)) dX7_worthAt_82 ?_
              refine lv_topi (fun x_4656 ex_4656 => ?_)
              have hG := hG.trans (lt_eq ex_4656)
              have kx_4656 : (fM_r x_4655.toNatClampNeg).toInt = x_4656.toInt := by rw [ex_4656]
              have cx_4656 : (fM_r (27 + p0.toNatClampNeg)).toInt = x_4656.toInt := by rw [show 27 + p0.toNatClampNeg = x_4655.toNatClampNeg from by have q9 := ti_cl (x := x_4655) vx_4655 (by omega); have q_p0 := ti_cl (x := p0) rfl (by omega); omega]; exact kx_4656
              have sx_4656 := r_R.many x_4655.toNatClampNeg (by have q9 := ti_cl (x := x_4655) vx_4655 (by omega); omega) (by have q9 := ti_cl (x := x_4655) vx_4655 (by omega); omega)
              refine lv_icmp_ge (tgt := 179) hx hb dX7_worthAt_83 (by decide) (fun c_4657 => ?_) (fun c_4657 => ?_)
              · skip
                have hG := hG.trans (if_pos c_4657)
                have gc_4657 := ti_le c_4657 rfl rfl
                refine lv_iload hx hb dX7_worthAt_179 (lv_at hl 2 rfl) ?_
                refine lv_iconst (v := 3) hx hb dX7_worthAt_181 (by decide) ?_
                refine lv_icmp_ne (tgt := 196) hx hb dX7_worthAt_182 (by decide) (fun c_4658 => ?_) (fun c_4658 => ?_)
                · skip
                  have hG := hG.trans (if_neg c_4658)
                  have gc_4658 := ti_ne c_4658 rfl kc_3
                  refine lv_iload hx hb dX7_worthAt_196 (lv_at hl 1 rfl) ?_
                  exact W.iret hx hb hr (fun t ht hW => ⟨⟨_, 0, rfl, ⟨⟨trivial, (rval_fold (by omega) (by omega) hi1_n_4654 (by have q1 := ti_cl (x := z_4652) rfl (by omega); omega))⟩, hG⟩, Bw.to (hP.sub [0, 1, 2, 3] rfl) (hD.sub [0, 1, 2, 3] (by decide) rfl) (hK.sub [0, 1, 2] rfl) ht hW⟩, hS.F ht⟩) hS.2.2 dX7_worthAt_198
                · skip
                  have hG := hG.trans (if_pos c_4658)
                  have gc_4658 := ti_eq c_4658 rfl kc_3
                  exfalso; clear hG; omega
              · skip
                have hG := hG.trans (if_neg c_4657)
                have gc_4657 := ti_nle c_4657 rfl rfl
                refine lv_aload_n hx hb dX7_worthAt_86 rfl (lv_at hl 4 rfl) ?_
                refine lv_iconst (v := 4) hx hb dX7_worthAt_87 (by decide) ?_
                refine lv_iload_n hx hb dX7_worthAt_88 rfl (lv_at hl 5 rfl) ?_
                refine lv_imul hx hb dX7_worthAt_89 ?_
                refine lv_topi (fun x_4659 ex_4659 => ?_)
                have hG := hG.trans (lt_eq ex_4659)
                have vx_4659 : x_4659.toInt = 4 * p0.toInt := by have q := ti_mul ex_4659 kc_4 rfl (by omega) (by omega); omega
                refine lv_iload hx hb dX7_worthAt_90 (lv_at hl 0 rfl) ?_
                refine lv_iadd hx hb dX7_worthAt_92 ?_
                refine lv_topi (fun x_4660 ex_4660 => ?_)
                have hG := hG.trans (lt_eq ex_4660)
                have vx_4660 : x_4660.toInt = 4 * p0.toInt + z_4652.toInt := by have q := ti_add ex_4660 vx_4659 rfl (by omega) (by omega); omega
                refine va_iald hx hb hK hP 3 2 rfl rfl (ti_in vx_4660 (by omega) (by omega)) dX7_worthAt_93 ?_
                refine lv_topi (fun x_4661 ex_4661 => ?_)
                have hG := hG.trans (lt_eq ex_4661)
                have kx_4661 : (fQ x_4660.toNatClampNeg).toInt = x_4661.toInt := by rw [ex_4661]
                have cx_4661 : (fQ (4 * p0.toNatClampNeg + z_4652.toNatClampNeg)).toInt = x_4661.toInt := by rw [show 4 * p0.toNatClampNeg + z_4652.toNatClampNeg = x_4660.toNatClampNeg from by have q9 := ti_cl (x := x_4660) vx_4660 (by omega); have q_p0 := ti_cl (x := p0) rfl (by omega); have q_z_4652 := ti_cl (x := z_4652) rfl (by omega); omega]; exact kx_4661
                have wx_4661 := r_Q.lt p0.toNatClampNeg (z_4652.toNatClampNeg) (by have q_1 := ti_cl (x := p0) rfl (by omega); have q_2 := ti_cl (x := z_4652) rfl (by omega); omega) (by have q_1 := ti_cl (x := p0) rfl (by omega); have q_2 := ti_cl (x := z_4652) rfl (by omega); omega)
                have wx_4661 : 0 ≤ x_4661.toInt ∧ x_4661.toInt < p0.toInt := by have q_1 := ti_cl (x := p0) rfl (by omega); have q_2 := ti_cl (x := z_4652) rfl (by omega); have q_3 := cx_4661; rw [show 4 * p0.toNatClampNeg + (z_4652.toNatClampNeg) = 4 * p0.toNatClampNeg + z_4652.toNatClampNeg from by omega] at wx_4661; omega
                refine lv_istore (lv' := [(7, .int x_4661), (6, .int z_4652), (5, .int z_4653), (4, .int x_4608), (0, .ref oM), (1, .ref rQ), (2, .int p0), (3, .int p1)]) hx hb dX7_worthAt_94 hl (by decide) rfl (fun ls hl => ?_)
                refine lv_aload_n hx hb dX7_worthAt_96 rfl (lv_at hl 4 rfl) ?_
                refine lv_aload_n hx hb dX7_worthAt_97 rfl (lv_at hl 5 rfl) ?_
                refine lv_iload hx hb dX7_worthAt_98 (lv_at hl 0 rfl) ?_
                refine lv_iload_n hx hb dX7_worthAt_100 rfl (lv_at hl 7 rfl) ?_
                refine lv_iconst (v := 1) hx hb dX7_worthAt_101 (by decide) ?_
                refine lv_iadd hx hb dX7_worthAt_102 ?_
                refine lv_topi (fun x_4662 ex_4662 => ?_)
                have hG := hG.trans (lt_eq ex_4662)
                have vx_4662 : x_4662.toInt = p1.toInt + 1 := by have q := ti_add ex_4662 rfl kc_1 (by omega) (by omega); omega
                have hFc := va_free (wc := [(oc7 oM iM_thrown rM_tape iM_taped iM_size iM_at iM_end iM_token iM_whole iM_nameSize iM_fault iM_place iM_trouble rM_letters iM_failed iM_hasCourt rM_r rM_fresh rM_told rM_read rM_st rM_undone rM_kept iM_undos iM_images rM_fresher iM_fresherSize iM_scale iM_night rM_heardRow rM_cutRow iM_breaths iM_cutMany iM_allBreaths rM_trial rM_words iM_fewestBreaths iM_orderMany iM_orderSum iM_leastOrder rM_often iM_setMany iM_someOf iM_allOf iM_allWeight iM_enoughWeight iM_worthSum iM_firstRest iM_leastDrawn), (arI rM_r kM_r 287 fM_r), (arI rM_told kM_told 90 fM_told), (arI rQ kQ 90 fQ)]) hD hS hA [0, 1, 2, 3] rfl
                refine va_calli (va_runV (As := [.ref rQ, .int x_4661, .int x_4662]) (rest := []) ⟨hx, hb, hml, hown, hts⟩ (ih9 _ oM iM_thrown rM_tape iM_taped iM_size iM_at iM_end iM_token iM_whole iM_nameSize iM_fault iM_place iM_trouble rM_letters iM_failed iM_hasCourt rM_r fM_r kM_r rM_fresh rM_told fM_told kM_told rM_read rM_st rM_undone rM_kept iM_undos iM_images rM_fresher iM_fresherSize iM_scale iM_night rM_heardRow rM_cutRow iM_breaths iM_cutMany iM_allBreaths rM_trial rM_words iM_fewestBreaths iM_orderMany iM_orderSum iM_leastOrder rM_often iM_setMany iM_someOf iM_allOf iM_allWeight iM_enoughWeight iM_worthSum iM_firstRest iM_leastDrawn rQ fQ kQ x_4661 x_4662 (by first | omega | decide) (by first | omega | decide) (by first | omega | decide) (by first | omega | decide) (by first | omega | decide) (by first | omega | decide) (by first | omega | decide) (by first | omega | decide) (by first | omega | decide) (by first | omega | decide) (by assumption) (by assumption) (by assumption) (by assumption) (by first | omega | decide | assumption | (have q0 := kc_0; have q1 := kc_1; omega) | (intro h; exact absurd h (by decide))) (by first | omega | decide | assumption | (have q0 := kc_0; have q1 := kc_1; omega) | (intro h; exact absurd h (by decide))) (by first | omega | decide | assumption | (have q0 := kc_0; have q1 := kc_1; omega) | (intro h; exact absurd h (by decide))) (by first | omega | decide | assumption | (have q0 := kc_0; have q1 := kc_1; omega) | (intro h; exact absurd h (by decide)))) (cwV 3 hts (wd_V wd_649 wd_650 wd_651 wd_5 (wd_c wd_652)) rfl rfl rfl (by decide +kernel) ⟨(show (1 + n9) + 1 ≤ 1 + (n9 + 1) by omega), (show 8 + (9 + 11) + (10 + 28 * n9) ≤ 10 + 28 * (n9 + 1) by omega)⟩) ⟨Pw.fb, va_recv hK hP (ci := 7) (q0 := 0) rfl rfl, fun U hU hW => Pw.to (hP.sub [0, 1, 2, 3] rfl) (hD.sub [0, 1, 2, 3] (by decide) rfl) (hK.sub [0, 1, 2] rfl) hE hS hFc hU hW⟩ rfl rfl hl.1 rfl (lv_room (Nat.le_of_ble_eq_true rfl)) dX7_worthAt_103 ⟨Nat.le_of_ble_eq_true rfl, Nat.le_of_ble_eq_true rfl⟩) hS (fun q _ h => hFc q h) hFc (fun r u t H locs ht hvm hw hB hz1 hk1 hS => ?_)
                have hru9 := hw.2
                have hw := hw.1
                obtain ⟨hP, hD, hK⟩ := Bw.go (ws' := [(oc7 oM iM_thrown rM_tape iM_taped iM_size iM_at iM_end iM_token iM_whole iM_nameSize iM_fault iM_place iM_trouble rM_letters iM_failed iM_hasCourt rM_r rM_fresh rM_told rM_read rM_st rM_undone rM_kept iM_undos iM_images rM_fresher iM_fresherSize iM_scale iM_night rM_heardRow rM_cutRow iM_breaths iM_cutMany iM_allBreaths rM_trial rM_words iM_fewestBreaths iM_orderMany iM_orderSum iM_leastOrder rM_often iM_setMany iM_someOf iM_allOf iM_allWeight iM_enoughWeight iM_worthSum iM_firstRest iM_leastDrawn), (arI rM_r kM_r 287 fM_r), (arI rM_told kM_told 90 fM_told), (arI rQ kQ 90 fQ)]) (tys' := [(kM_r, .int), (kM_told, .int), (kQ, .int)]) hB rfl ht hvm hP hD hK [0, 1, 2, 3] [] rfl (by decide) (by decide) [] hk1 hFc rfl rfl rfl
                clear hz1 hk1 hvm ht hB
                obtain ⟨x_4663, rfl⟩ : ∃ z, z = r := ⟨_, rfl⟩
                have hG := hG.trans (lt_eq hru9.symm)
                have lx_4663 := hw.2
                refine lv_istore (lv' := [(8, .int x_4663), (7, .int x_4661), (6, .int z_4652), (5, .int z_4653), (4, .int x_4608), (0, .ref oM), (1, .ref rQ), (2, .int p0), (3, .int p1)]) hx hb dX7_worthAt_106 hl (by decide) rfl (fun ls hl => ?_)
                refine lv_iload hx hb dX7_worthAt_108 (lv_at hl 4 rfl) ?_
                refine lv_iconst (v := 1) hx hb dX7_worthAt_110 (by decide) ?_
                refine lv_icmp_ne (tgt := 133) hx hb dX7_worthAt_111 (by decide) (fun c_4664 => ?_) (fun c_4664 => ?_)
                · skip
                  have hG := hG.trans (if_neg c_4664)
                  have gc_4664 := ti_ne c_4664 rfl kc_1
                  refine lv_iload hx hb dX7_worthAt_133 (lv_at hl 4 rfl) ?_
                  refine lv_iconst (v := 2) hx hb dX7_worthAt_135 (by decide) ?_
                  refine lv_icmp_ne (tgt := 158) hx hb dX7_worthAt_136 (by decide) (fun c_4665 => ?_) (fun c_4665 => ?_)
                  · skip
                    have hG := hG.trans (if_neg c_4665)
                    have gc_4665 := ti_ne c_4665 rfl kc_2
                    exfalso; clear hG; omega
                  · skip
                    have hG := hG.trans (if_pos c_4665)
                    have gc_4665 := ti_eq c_4665 rfl kc_2
                    refine lv_iload hx hb dX7_worthAt_139 (lv_at hl 0 rfl) ?_
                    refine lv_iload hx hb dX7_worthAt_141 (lv_at hl 3 rfl) ?_
                    refine lv_icmp_ge (tgt := 151) hx hb dX7_worthAt_143 (by decide) (fun c_4666 => ?_) (fun c_4666 => ?_)
                    · skip
                      have hG := hG.trans (if_pos c_4666)
                      have gc_4666 := ti_le c_4666 rfl rfl
                      refine lv_iload hx hb dX7_worthAt_151 (lv_at hl 3 rfl) ?_
                      refine lv_istore (lv' := [(5, .int z_4653), (8, .int x_4663), (7, .int x_4661), (6, .int z_4652), (4, .int x_4608), (0, .ref oM), (1, .ref rQ), (2, .int p0), (3, .int p1)]) hx hb dX7_worthAt_153 hl (by decide) rfl (fun ls hl => ?_)
                      refine lv_goto (tgt := 173) hx hb dX7_worthAt_155 (by decide) ?_
                      obtain ⟨x_4667, ex_4667⟩ : ∃ z : Int32, z = z_4652 + Int32.ofInt 1 := ⟨_, rfl⟩
                      have hG := hG.trans (lt_eq ex_4667)
                      have vx_4667 : x_4667.toInt = z_4652.toInt + 1 := by have q := ti_add (y := 1) ex_4667 rfl kc_1 (by omega) (by omega); omega
                      refine lv_iinc (v := x_4667) (lv' := [(6, .int x_4667), (5, .int z_4653), (8, .int x_4663), (7, .int x_4661), (4, .int x_4608), (0, .ref oM), (1, .ref rQ), (2, .int p0), (3, .int p1)]) hx hb dX7_worthAt_173 hl (k := 3) rfl ex_4667.symm (by decide) rfl (fun ls hl => ?_)
                      refine lv_goto (tgt := 72) hx hb dX7_worthAt_176 (by decide) ?_
                      exact ih_n_4654 x_4667 z_4653 _ _ _  (by first | omega | decide | assumption) (fold_step (v := x_4663) (part := x_4661) hi1_n_4654 (by have q := cx_4661; rw [show 4 * p0.toNatClampNeg + z_4652.toNatClampNeg = 4 * p0.toNatClampNeg + z_4652.toNatClampNeg from by omega]; exact q) lx_4663 (by first | exact step_k0 (by omega) (by omega) | exact step_q0 (by omega) (by omega)) (by have q1 := ti_cl (x := x_4667) vx_4667 (by omega); have q2 := ti_cl (x := z_4652) rfl (by omega); omega)) (by omega) hG (hP.sub [0, 1, 2, 3] rfl) (hD.sub [0, 1, 2, 3] (by decide) rfl) hS (lv_sub hl [0, 1, 4, 5, 6, 7, 8] rfl)
                    · skip
                      have hG := hG.trans (if_neg c_4666)
                      have gc_4666 := ti_nle c_4666 rfl rfl
                      refine lv_iload hx hb dX7_worthAt_146 (lv_at hl 0 rfl) ?_
                      refine lv_goto (tgt := 153) hx hb dX7_worthAt_148 (by decide) ?_
                      refine lv_istore (lv' := [(5, .int x_4663), (8, .int x_4663), (7, .int x_4661), (6, .int z_4652), (4, .int x_4608), (0, .ref oM), (1, .ref rQ), (2, .int p0), (3, .int p1)]) hx hb dX7_worthAt_153 hl (by decide) rfl (fun ls hl => ?_)
                      refine lv_goto (tgt := 173) hx hb dX7_worthAt_155 (by decide) ?_
                      obtain ⟨x_4668, ex_4668⟩ : ∃ z : Int32, z = z_4652 + Int32.ofInt 1 := ⟨_, rfl⟩
                      have hG := hG.trans (lt_eq ex_4668)
                      have vx_4668 : x_4668.toInt = z_4652.toInt + 1 := by have q := ti_add (y := 1) ex_4668 rfl kc_1 (by omega) (by omega); omega
                      refine lv_iinc (v := x_4668) (lv' := [(6, .int x_4668), (5, .int x_4663), (8, .int x_4663), (7, .int x_4661), (4, .int x_4608), (0, .ref oM), (1, .ref rQ), (2, .int p0), (3, .int p1)]) hx hb dX7_worthAt_173 hl (k := 3) rfl ex_4668.symm (by decide) rfl (fun ls hl => ?_)
                      refine lv_goto (tgt := 72) hx hb dX7_worthAt_176 (by decide) ?_
                      exact ih_n_4654 x_4668 x_4663 _ _ _  (by first | omega | decide | assumption) (fold_step (v := x_4663) (part := x_4661) hi1_n_4654 (by have q := cx_4661; rw [show 4 * p0.toNatClampNeg + z_4652.toNatClampNeg = 4 * p0.toNatClampNeg + z_4652.toNatClampNeg from by omega]; exact q) lx_4663 (by first | exact step_k1 (by omega) (by omega) | exact step_q1 (by omega) (by omega)) (by have q1 := ti_cl (x := x_4668) vx_4668 (by omega); have q2 := ti_cl (x := z_4652) rfl (by omega); omega)) (by omega) hG (hP.sub [0, 1, 2, 3] rfl) (hD.sub [0, 1, 2, 3] (by decide) rfl) hS (lv_sub hl [0, 1, 4, 5, 6, 7, 8] rfl)
                · skip
                  have hG := hG.trans (if_pos c_4664)
                  have gc_4664 := ti_eq c_4664 rfl kc_1
                  exfalso; clear hG; omega
          exact key_n_4654 (((4 - (0 : Int32).toInt).toNat) + 1) 0 100000000 _ _ _  (by first | omega | decide | assumption | (have q0 := kc_0; have q1 := kc_1; have q2 := kc_100000000; omega) | (show _ = startV _; rw [show (fM_r (9 + p0.toNatClampNeg)).toInt = 1 from by omega]; rfl) | (show _ = startV _; rw [show (fM_r (9 + p0.toNatClampNeg)).toInt = 2 from by omega]; rfl) | (show _ = startV _; rw [show (fM_r (9 + p0.toNatClampNeg)).toInt = 3 from by omega]; rfl)) (by first | omega | decide | assumption | (have q0 := kc_0; have q1 := kc_1; have q2 := kc_100000000; omega) | (show _ = startV _; rw [show (fM_r (9 + p0.toNatClampNeg)).toInt = 1 from by omega]; rfl) | (show _ = startV _; rw [show (fM_r (9 + p0.toNatClampNeg)).toInt = 2 from by omega]; rfl) | (show _ = startV _; rw [show (fM_r (9 + p0.toNatClampNeg)).toInt = 3 from by omega]; rfl)) (by omega) hG hP hD hS hl
      · skip
        have hG := hG.trans (if_pos c_4610)
        have gc_4610 := ti_eq c_4610 rfl rfl
        exfalso; clear hG; omega
    · skip
      have hG := hG.trans (if_pos c_4609)
      have gc_4609 := ti_eq c_4609 rfl kc_0
      refine lv_aload_n hx hb dX7_worthAt_16 rfl (lv_at hl 2 rfl) ?_
      refine lv_bipush (v := 72) hx hb dX7_worthAt_17 (by decide) ?_
      refine lv_iload_n hx hb dX7_worthAt_19 rfl (lv_at hl 3 rfl) ?_
      refine lv_iadd hx hb dX7_worthAt_20 ?_
      refine lv_topi (fun x_4669 ex_4669 => ?_)
      have hG := hG.trans (lt_eq ex_4669)
      have vx_4669 : x_4669.toInt = p0.toInt + 72 := by have q := ti_add ex_4669 kc_72 rfl (by omega) (by omega); omega
      refine va_iald hx hb hK hP 3 2 rfl rfl (ti_in vx_4669 (by omega) (by omega)) dX7_worthAt_21 ?_
      refine lv_topi (fun x_4670 ex_4670 => ?_)
      have hG := hG.trans (lt_eq ex_4670)
      have kx_4670 : (fQ x_4669.toNatClampNeg).toInt = x_4670.toInt := by rw [ex_4670]
      have cx_4670 : (fQ (72 + p0.toNatClampNeg)).toInt = x_4670.toInt := by rw [show 72 + p0.toNatClampNeg = x_4669.toNatClampNeg from by have q9 := ti_cl (x := x_4669) vx_4669 (by omega); have q_p0 := ti_cl (x := p0) rfl (by omega); omega]; exact kx_4670
      refine lv_aload_n hx hb dX7_worthAt_22 rfl (lv_at hl 1 rfl) ?_
      refine va_get (D := (dC, dI)) (ci := 7) (v := .int iM_scale) (C := RX7) (T := TX7) (N := 48) hx hb hts inX7 hown hK hP 0 rfl rfl 26 (by decide) (hts _ wd_163) (fun _ h9 => h9) rfl dX7_worthAt_23 ?_
      refine lv_imul hx hb dX7_worthAt_26 ?_
      refine lv_topi (fun x_4671 ex_4671 => ?_)
      have hG := hG.trans (lt_eq ex_4671)
      exact W.iret hx hb hr (fun t ht hW => ⟨⟨_, 0, rfl, ⟨⟨trivial, (rval_word (z := x_4670) (by omega) (by have q := cx_4670; rw [show 72 + p0.toNatClampNeg = 72 + p0.toNatClampNeg from by omega]; exact q) ex_4671)⟩, hG⟩, Bw.to (hP.sub [0, 1, 2, 3] rfl) (hD.sub [0, 1, 2, 3] (by decide) rfl) (hK.sub [0, 1, 2] rfl) ht hW⟩, hS.F ht⟩) hS.2.2 dX7_worthAt_27
theorem tX7_worthAt_x (l : Launch) (dC : Nat → ClassId) (dI : Nat → Nat → Nat) (sz : Nat) (oM : Nat) (iM_thrown : Int32) (rM_tape : Nat) (iM_taped : Int32) (iM_size : Int32) (iM_at : Int32) (iM_end : Int32) (iM_token : Int32) (iM_whole : Int32) (iM_nameSize : Int32) (iM_fault : Int32) (iM_place : Int32) (iM_trouble : Int32) (rM_letters : Nat) (iM_failed : Int32) (iM_hasCourt : Int32) (rM_r : Nat) (fM_r : Nat → Int32) (kM_r : ClassId) (rM_fresh : Nat) (rM_told : Nat) (fM_told : Nat → Int32) (kM_told : ClassId) (rM_read : Nat) (rM_st : Nat) (rM_undone : Nat) (rM_kept : Nat) (iM_undos : Int32) (iM_images : Int32) (rM_fresher : Nat) (iM_fresherSize : Int32) (iM_scale : Int32) (iM_night : Int32) (rM_heardRow : Nat) (rM_cutRow : Nat) (iM_breaths : Int32) (iM_cutMany : Int32) (iM_allBreaths : Int32) (rM_trial : Nat) (rM_words : Nat) (iM_fewestBreaths : Int32) (iM_orderMany : Int32) (iM_orderSum : Int32) (iM_leastOrder : Int32) (rM_often : Nat) (iM_setMany : Int32) (iM_someOf : Int32) (iM_allOf : Int32) (iM_allWeight : Int64) (iM_enoughWeight : Int64) (iM_worthSum : Int64) (iM_firstRest : Int32) (iM_leastDrawn : Int32) (rQ : Nat) (fQ : Nat → Int32) (kQ : ClassId) (p0 : Int32) (p1 : Int32) (b_iM_taped : 0 ≤ iM_taped.toInt ∧ iM_taped.toInt ≤ 900) (b_iM_size : 0 ≤ iM_size.toInt ∧ iM_size.toInt ≤ 900) (b_iM_end : 0 ≤ iM_end.toInt ∧ iM_end.toInt ≤ 900) (b_iM_failed : 0 ≤ iM_failed.toInt ∧ iM_failed.toInt ≤ 1) (b_iM_hasCourt : 0 ≤ iM_hasCourt.toInt ∧ iM_hasCourt.toInt ≤ 1) (b_iM_undos : 0 ≤ iM_undos.toInt ∧ iM_undos.toInt ≤ 16) (b_iM_images : 0 ≤ iM_images.toInt ∧ iM_images.toInt ≤ 3) (b_iM_scale : 1 ≤ iM_scale.toInt ∧ iM_scale.toInt ≤ 1296) (b_iM_breaths : 0 ≤ iM_breaths.toInt ∧ iM_breaths.toInt ≤ 399) (b_iM_cutMany : 0 ≤ iM_cutMany.toInt ∧ iM_cutMany.toInt ≤ 399) (r_R : ROk fM_r) (r_C : iM_hasCourt.toInt ≤ 0 ∨ (1 ≤ (fM_r 1).toInt ∧ 0 ≤ (fM_r 6).toInt ∧ (fM_r 6).toInt < (fM_r 1).toInt)) (r_told : RowOk fM_r fM_told) (r_Q : RowOk fM_r fQ) (hk0 : 0 ≤ p0.toInt ∧ p0.toInt < (fM_r 1).toInt) (hnt : iM_night.toInt = -1) (hdp : 0 ≤ p1.toInt ∧ p1.toInt + p0.toInt ≤ 100) : Met l yX7_worthAt (Cond.code yX7_worthAt cX7_worthAt 9 (some .int) :: wG) ({ frames := 19, cells := 0, slots := 0, locals := 514 }) (va_Pc [.ref oM, .ref rQ, .int p0, .int p1] (Pw dC dI sz [(oc7 oM iM_thrown rM_tape iM_taped iM_size iM_at iM_end iM_token iM_whole iM_nameSize iM_fault iM_place iM_trouble rM_letters iM_failed iM_hasCourt rM_r rM_fresh rM_told rM_read rM_st rM_undone rM_kept iM_undos iM_images rM_fresher iM_fresherSize iM_scale iM_night rM_heardRow rM_cutRow iM_breaths iM_cutMany iM_allBreaths rM_trial rM_words iM_fewestBreaths iM_orderMany iM_orderSum iM_leastOrder rM_often iM_setMany iM_someOf iM_allOf iM_allWeight iM_enoughWeight iM_worthSum iM_firstRest iM_leastDrawn), (arI rM_r kM_r 287 fM_r), (arI rM_told kM_told 90 fM_told), (arI rQ kQ 90 fQ)] [(kM_r, .int), (kM_told, .int), (kQ, .int)])) (va_Qi (fun (r : Int32) (_ : Nat) => (True ∧ (r = rval fM_r fM_told fQ iM_scale 18 p0.toNatClampNeg)) ∧ PX7_worthAt 18 iM_night fM_r fM_told iM_scale fQ p0 p1 = r) (fun (_ : Nat) (t : State) => Bw dC dI (va_A [(oc7 oM iM_thrown rM_tape iM_taped iM_size iM_at iM_end iM_token iM_whole iM_nameSize iM_fault iM_place iM_trouble rM_letters iM_failed iM_hasCourt rM_r rM_fresh rM_told rM_read rM_st rM_undone rM_kept iM_undos iM_images rM_fresher iM_fresherSize iM_scale iM_night rM_heardRow rM_cutRow iM_breaths iM_cutMany iM_allBreaths rM_trial rM_words iM_fewestBreaths iM_orderMany iM_orderSum iM_leastOrder rM_often iM_setMany iM_someOf iM_allOf iM_allWeight iM_enoughWeight iM_worthSum iM_firstRest iM_leastDrawn), (arI rM_r kM_r 287 fM_r), (arI rM_told kM_told 90 fM_told), (arI rQ kQ 90 fQ)] sz) [(oc7 oM iM_thrown rM_tape iM_taped iM_size iM_at iM_end iM_token iM_whole iM_nameSize iM_fault iM_place iM_trouble rM_letters iM_failed iM_hasCourt rM_r rM_fresh rM_told rM_read rM_st rM_undone rM_kept iM_undos iM_images rM_fresher iM_fresherSize iM_scale iM_night rM_heardRow rM_cutRow iM_breaths iM_cutMany iM_allBreaths rM_trial rM_words iM_fewestBreaths iM_orderMany iM_orderSum iM_leastOrder rM_often iM_setMany iM_someOf iM_allOf iM_allWeight iM_enoughWeight iM_worthSum iM_firstRest iM_leastDrawn), (arI rM_r kM_r 287 fM_r), (arI rM_told kM_told 90 fM_told), (arI rQ kQ 90 fQ)] [(kM_r, .int), (kM_told, .int), (kQ, .int)] t) (va_A [(oc7 oM iM_thrown rM_tape iM_taped iM_size iM_at iM_end iM_token iM_whole iM_nameSize iM_fault iM_place iM_trouble rM_letters iM_failed iM_hasCourt rM_r rM_fresh rM_told rM_read rM_st rM_undone rM_kept iM_undos iM_images rM_fresher iM_fresherSize iM_scale iM_night rM_heardRow rM_cutRow iM_breaths iM_cutMany iM_allBreaths rM_trial rM_words iM_fewestBreaths iM_orderMany iM_orderSum iM_leastOrder rM_often iM_setMany iM_someOf iM_allOf iM_allWeight iM_enoughWeight iM_worthSum iM_firstRest iM_leastDrawn), (arI rM_r kM_r 287 fM_r), (arI rM_told kM_told 90 fM_told), (arI rQ kQ 90 fQ)] sz)) 0 0 (va_A [(oc7 oM iM_thrown rM_tape iM_taped iM_size iM_at iM_end iM_token iM_whole iM_nameSize iM_fault iM_place iM_trouble rM_letters iM_failed iM_hasCourt rM_r rM_fresh rM_told rM_read rM_st rM_undone rM_kept iM_undos iM_images rM_fresher iM_fresherSize iM_scale iM_night rM_heardRow rM_cutRow iM_breaths iM_cutMany iM_allBreaths rM_trial rM_words iM_fewestBreaths iM_orderMany iM_orderSum iM_leastOrder rM_often iM_setMany iM_someOf iM_allOf iM_allWeight iM_enoughWeight iM_worthSum iM_firstRest iM_leastDrawn), (arI rM_r kM_r 287 fM_r), (arI rM_told kM_told 90 fM_told), (arI rQ kQ 90 fQ)] sz) :=
  tX7_worthAt_x_n l dC dI 18 sz oM iM_thrown rM_tape iM_taped iM_size iM_at iM_end iM_token iM_whole iM_nameSize iM_fault iM_place iM_trouble rM_letters iM_failed iM_hasCourt rM_r fM_r kM_r rM_fresh rM_told fM_told kM_told rM_read rM_st rM_undone rM_kept iM_undos iM_images rM_fresher iM_fresherSize iM_scale iM_night rM_heardRow rM_cutRow iM_breaths iM_cutMany iM_allBreaths rM_trial rM_words iM_fewestBreaths iM_orderMany iM_orderSum iM_leastOrder rM_often iM_setMany iM_someOf iM_allOf iM_allWeight iM_enoughWeight iM_worthSum iM_firstRest iM_leastDrawn rQ fQ kQ p0 p1 b_iM_taped b_iM_size b_iM_end b_iM_failed b_iM_hasCourt b_iM_undos b_iM_images b_iM_scale b_iM_breaths b_iM_cutMany r_R r_C r_told r_Q hk0 hnt hdp (by have q := r_R.nodes; omega)
set_option maxHeartbeats 4000000 in
set_option maxRecDepth 100000 in
theorem tX7_worthOf_x (l : Launch) (dC : Nat → ClassId) (dI : Nat → Nat → Nat) (sz : Nat) (oM : Nat) (iM_thrown : Int32) (rM_tape : Nat) (iM_taped : Int32) (iM_size : Int32) (iM_at : Int32) (iM_end : Int32) (iM_token : Int32) (iM_whole : Int32) (iM_nameSize : Int32) (iM_fault : Int32) (iM_place : Int32) (iM_trouble : Int32) (rM_letters : Nat) (iM_failed : Int32) (iM_hasCourt : Int32) (rM_r : Nat) (fM_r : Nat → Int32) (kM_r : ClassId) (rM_fresh : Nat) (rM_told : Nat) (fM_told : Nat → Int32) (kM_told : ClassId) (rM_read : Nat) (rM_st : Nat) (rM_undone : Nat) (rM_kept : Nat) (iM_undos : Int32) (iM_images : Int32) (rM_fresher : Nat) (iM_fresherSize : Int32) (iM_scale : Int32) (iM_night : Int32) (rM_heardRow : Nat) (rM_cutRow : Nat) (iM_breaths : Int32) (iM_cutMany : Int32) (iM_allBreaths : Int32) (rM_trial : Nat) (rM_words : Nat) (iM_fewestBreaths : Int32) (iM_orderMany : Int32) (iM_orderSum : Int32) (iM_leastOrder : Int32) (rM_often : Nat) (iM_setMany : Int32) (iM_someOf : Int32) (iM_allOf : Int32) (iM_allWeight : Int64) (iM_enoughWeight : Int64) (iM_worthSum : Int64) (iM_firstRest : Int32) (iM_leastDrawn : Int32) (rQ : Nat) (fQ : Nat → Int32) (kQ : ClassId) (p0 : Int32) (b_iM_taped : 0 ≤ iM_taped.toInt ∧ iM_taped.toInt ≤ 900) (b_iM_size : 0 ≤ iM_size.toInt ∧ iM_size.toInt ≤ 900) (b_iM_end : 0 ≤ iM_end.toInt ∧ iM_end.toInt ≤ 900) (b_iM_failed : 0 ≤ iM_failed.toInt ∧ iM_failed.toInt ≤ 1) (b_iM_hasCourt : 0 ≤ iM_hasCourt.toInt ∧ iM_hasCourt.toInt ≤ 1) (b_iM_undos : 0 ≤ iM_undos.toInt ∧ iM_undos.toInt ≤ 16) (b_iM_images : 0 ≤ iM_images.toInt ∧ iM_images.toInt ≤ 3) (b_iM_scale : 1 ≤ iM_scale.toInt ∧ iM_scale.toInt ≤ 1296) (b_iM_breaths : 0 ≤ iM_breaths.toInt ∧ iM_breaths.toInt ≤ 399) (b_iM_cutMany : 0 ≤ iM_cutMany.toInt ∧ iM_cutMany.toInt ≤ 399) (r_R : ROk fM_r) (r_C : iM_hasCourt.toInt ≤ 0 ∨ (1 ≤ (fM_r 1).toInt ∧ 0 ≤ (fM_r 6).toInt ∧ (fM_r 6).toInt < (fM_r 1).toInt)) (r_told : RowOk fM_r fM_told) (r_Q : RowOk fM_r fQ) (hk0 : 0 ≤ p0.toInt ∧ p0.toInt < (fM_r 1).toInt) (hnt : iM_night.toInt = -1) : Met l yX7_worthOf (Cond.code yX7_worthOf cX7_worthOf 3 (some .int) :: wG) ({ frames := 20, cells := 0, slots := 0, locals := 542 }) (va_Pc [.ref oM, .ref rQ, .int p0] (Pw dC dI sz [(oc7 oM iM_thrown rM_tape iM_taped iM_size iM_at iM_end iM_token iM_whole iM_nameSize iM_fault iM_place iM_trouble rM_letters iM_failed iM_hasCourt rM_r rM_fresh rM_told rM_read rM_st rM_undone rM_kept iM_undos iM_images rM_fresher iM_fresherSize iM_scale iM_night rM_heardRow rM_cutRow iM_breaths iM_cutMany iM_allBreaths rM_trial rM_words iM_fewestBreaths iM_orderMany iM_orderSum iM_leastOrder rM_often iM_setMany iM_someOf iM_allOf iM_allWeight iM_enoughWeight iM_worthSum iM_firstRest iM_leastDrawn), (arI rM_r kM_r 287 fM_r), (arI rM_told kM_told 90 fM_told), (arI rQ kQ 90 fQ)] [(kM_r, .int), (kM_told, .int), (kQ, .int)])) (va_Qi (fun (r : Int32) (_ : Nat) => (True ∧ (r = rval fM_r fM_told fQ iM_scale 18 p0.toNatClampNeg)) ∧ PX7_worthOf fM_r fM_told iM_scale iM_night fQ p0 = r) (fun (_ : Nat) (t : State) => Bw dC dI (va_A [(oc7 oM iM_thrown rM_tape iM_taped iM_size iM_at iM_end iM_token iM_whole iM_nameSize iM_fault iM_place iM_trouble rM_letters iM_failed iM_hasCourt rM_r rM_fresh rM_told rM_read rM_st rM_undone rM_kept iM_undos iM_images rM_fresher iM_fresherSize iM_scale iM_night rM_heardRow rM_cutRow iM_breaths iM_cutMany iM_allBreaths rM_trial rM_words iM_fewestBreaths iM_orderMany iM_orderSum iM_leastOrder rM_often iM_setMany iM_someOf iM_allOf iM_allWeight iM_enoughWeight iM_worthSum iM_firstRest iM_leastDrawn), (arI rM_r kM_r 287 fM_r), (arI rM_told kM_told 90 fM_told), (arI rQ kQ 90 fQ)] sz) [(oc7 oM iM_thrown rM_tape iM_taped iM_size iM_at iM_end iM_token iM_whole iM_nameSize iM_fault iM_place iM_trouble rM_letters iM_failed iM_hasCourt rM_r rM_fresh rM_told rM_read rM_st rM_undone rM_kept iM_undos iM_images rM_fresher iM_fresherSize iM_scale iM_night rM_heardRow rM_cutRow iM_breaths iM_cutMany iM_allBreaths rM_trial rM_words iM_fewestBreaths iM_orderMany iM_orderSum iM_leastOrder rM_often iM_setMany iM_someOf iM_allOf iM_allWeight iM_enoughWeight iM_worthSum iM_firstRest iM_leastDrawn), (arI rM_r kM_r 287 fM_r), (arI rM_told kM_told 90 fM_told), (arI rQ kQ 90 fQ)] [(kM_r, .int), (kM_told, .int), (kQ, .int)] t) (va_A [(oc7 oM iM_thrown rM_tape iM_taped iM_size iM_at iM_end iM_token iM_whole iM_nameSize iM_fault iM_place iM_trouble rM_letters iM_failed iM_hasCourt rM_r rM_fresh rM_told rM_read rM_st rM_undone rM_kept iM_undos iM_images rM_fresher iM_fresherSize iM_scale iM_night rM_heardRow rM_cutRow iM_breaths iM_cutMany iM_allBreaths rM_trial rM_words iM_fewestBreaths iM_orderMany iM_orderSum iM_leastOrder rM_often iM_setMany iM_someOf iM_allOf iM_allWeight iM_enoughWeight iM_worthSum iM_firstRest iM_leastDrawn), (arI rM_r kM_r 287 fM_r), (arI rM_told kM_told 90 fM_told), (arI rQ kQ 90 fQ)] sz)) 0 0 (va_A [(oc7 oM iM_thrown rM_tape iM_taped iM_size iM_at iM_end iM_token iM_whole iM_nameSize iM_fault iM_place iM_trouble rM_letters iM_failed iM_hasCourt rM_r rM_fresh rM_told rM_read rM_st rM_undone rM_kept iM_undos iM_images rM_fresher iM_fresherSize iM_scale iM_night rM_heardRow rM_cutRow iM_breaths iM_cutMany iM_allBreaths rM_trial rM_words iM_fewestBreaths iM_orderMany iM_orderSum iM_leastOrder rM_often iM_setMany iM_someOf iM_allOf iM_allWeight iM_enoughWeight iM_worthSum iM_firstRest iM_leastDrawn), (arI rM_r kM_r 287 fM_r), (arI rM_told kM_told 90 fM_told), (arI rQ kQ 90 fQ)] sz) := by
  refine Met.ofW (cc := cX7_worthOf) (maxL := 3) (ret := (some .int)) (by decide) rfl ?_
  intro p e s m args below meth c s₁ B hml hv
  obtain ⟨rfl, hsz, hP, hK, hD0, hE⟩ := hv
  have hx := B.exec
  have hb := B.bytes
  have hr := B.returns
  have hts : ∀ w ∈ wG, w.before ([.ref oM, .ref rQ, .int p0] : List Value).toArray s = true := fun w h => atoms_spec (ws := Cond.code yX7_worthOf cX7_worthOf 3 (some .int) :: wG) B.pre w (List.mem_cons_of_mem _ h)
  have hown : s.vm.findClass RX7 = some m.cls := findClass_of_methodNamed B.named
  have hlocks := B.notSynchronized
  subst hsz
  have hD := hD0.self (sz := s.heap.size)
  generalize hAe : va_A [(oc7 oM iM_thrown rM_tape iM_taped iM_size iM_at iM_end iM_token iM_whole iM_nameSize iM_fault iM_place iM_trouble rM_letters iM_failed iM_hasCourt rM_r rM_fresh rM_told rM_read rM_st rM_undone rM_kept iM_undos iM_images rM_fresher iM_fresherSize iM_scale iM_night rM_heardRow rM_cutRow iM_breaths iM_cutMany iM_allBreaths rM_trial rM_words iM_fewestBreaths iM_orderMany iM_orderSum iM_leastOrder rM_often iM_setMany iM_someOf iM_allOf iM_allWeight iM_enoughWeight iM_worthSum iM_firstRest iM_leastDrawn), (arI rM_r kM_r 287 fM_r), (arI rM_told kM_told 90 fM_told), (arI rQ kQ 90 fQ)] s.heap.size = A at hD hE ⊢
  have hA : ∀ q : Nat, s.heap.size ≤ q → A q := fun q h => by rw [← hAe]; exact Or.inr h
  have hS : va_S A s.heap s.heap [] := va_S.rf
  have hl := lv_entry ([.ref oM, .ref rQ, .int p0]) (n := 3) (Nat.le_of_ble_eq_true rfl)
  rw [lg_entry_eq]
  generalize (lg_sl ([.ref oM, .ref rQ, .int p0]) ++ List.replicate (3 - (lg_sl ([.ref oM, .ref rQ, .int p0])).length) Slot.unset).toArray = ls at hl ⊢
  have hl : lv_has ls 3 [(0, .ref oM), (1, .ref rQ), (2, .int p0)] := hl
  have hG := PX7_worthOf_eq fM_r fM_told iM_scale iM_night fQ p0
  have s_slips := r_R.slips
  have s_nodes := r_R.nodes
  have s_uns := r_R.uns
  have q_p0 := ti_cl (x := p0) rfl (by omega)
  have mn_p0 := r_R.many (27 + p0.toNatClampNeg) (by omega) (by omega)
  have kn_p0 := r_R.kind (9 + p0.toNatClampNeg) (by omega) (by omega)
  have in_p0 := r_R.inner p0.toNatClampNeg (by omega)
  refine lv_aload_n hx hb dX7_worthOf_0 rfl (lv_at hl 0 rfl) ?_
  refine lv_aload_n hx hb dX7_worthOf_1 rfl (lv_at hl 1 rfl) ?_
  refine lv_iload_n hx hb dX7_worthOf_2 rfl (lv_at hl 2 rfl) ?_
  refine lv_iconst (v := 0) hx hb dX7_worthOf_3 (by decide) ?_
  have hFc := va_free (wc := [(oc7 oM iM_thrown rM_tape iM_taped iM_size iM_at iM_end iM_token iM_whole iM_nameSize iM_fault iM_place iM_trouble rM_letters iM_failed iM_hasCourt rM_r rM_fresh rM_told rM_read rM_st rM_undone rM_kept iM_undos iM_images rM_fresher iM_fresherSize iM_scale iM_night rM_heardRow rM_cutRow iM_breaths iM_cutMany iM_allBreaths rM_trial rM_words iM_fewestBreaths iM_orderMany iM_orderSum iM_leastOrder rM_often iM_setMany iM_someOf iM_allOf iM_allWeight iM_enoughWeight iM_worthSum iM_firstRest iM_leastDrawn), (arI rM_r kM_r 287 fM_r), (arI rM_told kM_told 90 fM_told), (arI rQ kQ 90 fQ)]) hD hS hA [0, 1, 2, 3] rfl
  refine va_calli (va_runV (As := [.ref rQ, .int p0, .int 0]) (rest := []) ⟨hx, hb, hml, hown, hts⟩ (tX7_worthAt_x l dC dI _ oM iM_thrown rM_tape iM_taped iM_size iM_at iM_end iM_token iM_whole iM_nameSize iM_fault iM_place iM_trouble rM_letters iM_failed iM_hasCourt rM_r fM_r kM_r rM_fresh rM_told fM_told kM_told rM_read rM_st rM_undone rM_kept iM_undos iM_images rM_fresher iM_fresherSize iM_scale iM_night rM_heardRow rM_cutRow iM_breaths iM_cutMany iM_allBreaths rM_trial rM_words iM_fewestBreaths iM_orderMany iM_orderSum iM_leastOrder rM_often iM_setMany iM_someOf iM_allOf iM_allWeight iM_enoughWeight iM_worthSum iM_firstRest iM_leastDrawn rQ fQ kQ p0 0 (by first | omega | decide) (by first | omega | decide) (by first | omega | decide) (by first | omega | decide) (by first | omega | decide) (by first | omega | decide) (by first | omega | decide) (by first | omega | decide) (by first | omega | decide) (by first | omega | decide) (by assumption) (by assumption) (by assumption) (by assumption) (by first | omega | decide | assumption | (have q0 := kc_0; have q1 := kc_1; omega) | (intro h; exact absurd h (by decide))) (by first | omega | decide | assumption | (have q0 := kc_0; have q1 := kc_1; omega) | (intro h; exact absurd h (by decide))) (by first | omega | decide | assumption | (have q0 := kc_0; have q1 := kc_1; omega) | (intro h; exact absurd h (by decide)))) (cwV 3 hts (wd_V wd_649 wd_650 wd_651 wd_5 (wd_c wd_652)) rfl rfl rfl (by decide +kernel) ⟨Nat.le_of_ble_eq_true rfl, Nat.le_of_ble_eq_true rfl⟩) ⟨Pw.fb, va_recv hK hP (ci := 7) (q0 := 0) rfl rfl, fun U hU hW => Pw.to (hP.sub [0, 1, 2, 3] rfl) (hD.sub [0, 1, 2, 3] (by decide) rfl) (hK.sub [0, 1, 2] rfl) hE hS hFc hU hW⟩ rfl rfl hl.1 rfl (lv_room (Nat.le_of_ble_eq_true rfl)) dX7_worthOf_4 ⟨Nat.le_of_ble_eq_true rfl, Nat.le_of_ble_eq_true rfl⟩) hS (fun q _ h => hFc q h) hFc (fun r u t H locs ht hvm hw hB hz1 hk1 hS => ?_)
  have hru9 := hw.2
  have hw := hw.1
  obtain ⟨hP, hD, hK⟩ := Bw.go (ws' := [(oc7 oM iM_thrown rM_tape iM_taped iM_size iM_at iM_end iM_token iM_whole iM_nameSize iM_fault iM_place iM_trouble rM_letters iM_failed iM_hasCourt rM_r rM_fresh rM_told rM_read rM_st rM_undone rM_kept iM_undos iM_images rM_fresher iM_fresherSize iM_scale iM_night rM_heardRow rM_cutRow iM_breaths iM_cutMany iM_allBreaths rM_trial rM_words iM_fewestBreaths iM_orderMany iM_orderSum iM_leastOrder rM_often iM_setMany iM_someOf iM_allOf iM_allWeight iM_enoughWeight iM_worthSum iM_firstRest iM_leastDrawn), (arI rM_r kM_r 287 fM_r), (arI rM_told kM_told 90 fM_told), (arI rQ kQ 90 fQ)]) (tys' := [(kM_r, .int), (kM_told, .int), (kQ, .int)]) hB rfl ht hvm hP hD hK [0, 1, 2, 3] [] rfl (by decide) (by decide) [] hk1 hFc rfl rfl rfl
  clear hz1 hk1 hvm ht hB
  obtain ⟨x_4673, rfl⟩ : ∃ z, z = r := ⟨_, rfl⟩
  have hG := hG.trans (lt_eq hru9.symm)
  have lx_4673 := hw.2
  exact W.iret hx hb hr (fun t ht hW => ⟨⟨_, 0, rfl, ⟨⟨trivial, lx_4673⟩, hG⟩, Bw.to (hP.sub [0, 1, 2, 3] rfl) (hD.sub [0, 1, 2, 3] (by decide) rfl) (hK.sub [0, 1, 2] rfl) ht hW⟩, hS.F ht⟩) hS.2.2 dX7_worthOf_7
set_option maxHeartbeats 4000000 in
set_option maxRecDepth 100000 in
theorem tX7_bestOf (l : Launch) (dC : Nat → ClassId) (dI : Nat → Nat → Nat) (sz : Nat) (oM : Nat) (iM_thrown : Int32) (rM_tape : Nat) (iM_taped : Int32) (iM_size : Int32) (iM_at : Int32) (iM_end : Int32) (iM_token : Int32) (iM_whole : Int32) (iM_nameSize : Int32) (iM_fault : Int32) (iM_place : Int32) (iM_trouble : Int32) (rM_letters : Nat) (iM_failed : Int32) (iM_hasCourt : Int32) (rM_r : Nat) (fM_r : Nat → Int32) (kM_r : ClassId) (rM_fresh : Nat) (rM_told : Nat) (fM_told : Nat → Int32) (kM_told : ClassId) (rM_read : Nat) (rM_st : Nat) (fM_st : Nat → Int32) (kM_st : ClassId) (rM_undone : Nat) (rM_kept : Nat) (iM_undos : Int32) (iM_images : Int32) (rM_fresher : Nat) (iM_fresherSize : Int32) (iM_scale : Int32) (iM_night : Int32) (rM_heardRow : Nat) (rM_cutRow : Nat) (iM_breaths : Int32) (iM_cutMany : Int32) (iM_allBreaths : Int32) (rM_trial : Nat) (rM_words : Nat) (iM_fewestBreaths : Int32) (iM_orderMany : Int32) (iM_orderSum : Int32) (iM_leastOrder : Int32) (rM_often : Nat) (iM_setMany : Int32) (iM_someOf : Int32) (iM_allOf : Int32) (iM_allWeight : Int64) (iM_enoughWeight : Int64) (iM_worthSum : Int64) (iM_firstRest : Int32) (iM_leastDrawn : Int32) (p0 : Int32) (b_iM_taped : 0 ≤ iM_taped.toInt ∧ iM_taped.toInt ≤ 900) (b_iM_size : 0 ≤ iM_size.toInt ∧ iM_size.toInt ≤ 900) (b_iM_end : 0 ≤ iM_end.toInt ∧ iM_end.toInt ≤ 900) (b_iM_failed : 0 ≤ iM_failed.toInt ∧ iM_failed.toInt ≤ 1) (b_iM_hasCourt : 0 ≤ iM_hasCourt.toInt ∧ iM_hasCourt.toInt ≤ 1) (b_iM_undos : 0 ≤ iM_undos.toInt ∧ iM_undos.toInt ≤ 16) (b_iM_images : 0 ≤ iM_images.toInt ∧ iM_images.toInt ≤ 3) (b_iM_scale : 1 ≤ iM_scale.toInt ∧ iM_scale.toInt ≤ 1296) (b_iM_breaths : 0 ≤ iM_breaths.toInt ∧ iM_breaths.toInt ≤ 399) (b_iM_cutMany : 0 ≤ iM_cutMany.toInt ∧ iM_cutMany.toInt ≤ 399) (r_R : ROk fM_r) (r_C : iM_hasCourt.toInt ≤ 0 ∨ (1 ≤ (fM_r 1).toInt ∧ 0 ≤ (fM_r 6).toInt ∧ (fM_r 6).toInt < (fM_r 1).toInt)) (r_st : RowOk fM_r fM_st) (r_told : RowOk fM_r fM_told) (r_wst : WorOk fM_st) (hk0 : 0 ≤ p0.toInt ∧ p0.toInt < (fM_r 1).toInt) (hnt : iM_night.toInt = -1) : Met l yX7_bestOf (Cond.code yX7_bestOf cX7_bestOf 3 (some .int) :: wG) ({ frames := 21, cells := 0, slots := 0, locals := 564 }) (va_Pc [.ref oM, .int p0] (Pw dC dI sz [(oc7 oM iM_thrown rM_tape iM_taped iM_size iM_at iM_end iM_token iM_whole iM_nameSize iM_fault iM_place iM_trouble rM_letters iM_failed iM_hasCourt rM_r rM_fresh rM_told rM_read rM_st rM_undone rM_kept iM_undos iM_images rM_fresher iM_fresherSize iM_scale iM_night rM_heardRow rM_cutRow iM_breaths iM_cutMany iM_allBreaths rM_trial rM_words iM_fewestBreaths iM_orderMany iM_orderSum iM_leastOrder rM_often iM_setMany iM_someOf iM_allOf iM_allWeight iM_enoughWeight iM_worthSum iM_firstRest iM_leastDrawn), (arI rM_r kM_r 287 fM_r), (arI rM_told kM_told 90 fM_told), (arI rM_st kM_st 90 fM_st)] [(kM_r, .int), (kM_told, .int), (kM_st, .int)])) (va_Qi (fun (r : Int32) (_ : Nat) => (True ∧ (-2 ≤ r.toInt ∧ r.toInt < p0.toInt ∧ r.toInt ≤ 17)) ∧ PX7_bestOf fM_r fM_told fM_st iM_scale iM_night p0 = r) (fun (_ : Nat) (t : State) => Bw dC dI (va_A [(oc7 oM iM_thrown rM_tape iM_taped iM_size iM_at iM_end iM_token iM_whole iM_nameSize iM_fault iM_place iM_trouble rM_letters iM_failed iM_hasCourt rM_r rM_fresh rM_told rM_read rM_st rM_undone rM_kept iM_undos iM_images rM_fresher iM_fresherSize iM_scale iM_night rM_heardRow rM_cutRow iM_breaths iM_cutMany iM_allBreaths rM_trial rM_words iM_fewestBreaths iM_orderMany iM_orderSum iM_leastOrder rM_often iM_setMany iM_someOf iM_allOf iM_allWeight iM_enoughWeight iM_worthSum iM_firstRest iM_leastDrawn), (arI rM_r kM_r 287 fM_r), (arI rM_told kM_told 90 fM_told), (arI rM_st kM_st 90 fM_st)] sz) [(oc7 oM iM_thrown rM_tape iM_taped iM_size iM_at iM_end iM_token iM_whole iM_nameSize iM_fault iM_place iM_trouble rM_letters iM_failed iM_hasCourt rM_r rM_fresh rM_told rM_read rM_st rM_undone rM_kept iM_undos iM_images rM_fresher iM_fresherSize iM_scale iM_night rM_heardRow rM_cutRow iM_breaths iM_cutMany iM_allBreaths rM_trial rM_words iM_fewestBreaths iM_orderMany iM_orderSum iM_leastOrder rM_often iM_setMany iM_someOf iM_allOf iM_allWeight iM_enoughWeight iM_worthSum iM_firstRest iM_leastDrawn), (arI rM_r kM_r 287 fM_r), (arI rM_told kM_told 90 fM_told), (arI rM_st kM_st 90 fM_st)] [(kM_r, .int), (kM_told, .int), (kM_st, .int)] t) (va_A [(oc7 oM iM_thrown rM_tape iM_taped iM_size iM_at iM_end iM_token iM_whole iM_nameSize iM_fault iM_place iM_trouble rM_letters iM_failed iM_hasCourt rM_r rM_fresh rM_told rM_read rM_st rM_undone rM_kept iM_undos iM_images rM_fresher iM_fresherSize iM_scale iM_night rM_heardRow rM_cutRow iM_breaths iM_cutMany iM_allBreaths rM_trial rM_words iM_fewestBreaths iM_orderMany iM_orderSum iM_leastOrder rM_often iM_setMany iM_someOf iM_allOf iM_allWeight iM_enoughWeight iM_worthSum iM_firstRest iM_leastDrawn), (arI rM_r kM_r 287 fM_r), (arI rM_told kM_told 90 fM_told), (arI rM_st kM_st 90 fM_st)] sz)) 0 0 (va_A [(oc7 oM iM_thrown rM_tape iM_taped iM_size iM_at iM_end iM_token iM_whole iM_nameSize iM_fault iM_place iM_trouble rM_letters iM_failed iM_hasCourt rM_r rM_fresh rM_told rM_read rM_st rM_undone rM_kept iM_undos iM_images rM_fresher iM_fresherSize iM_scale iM_night rM_heardRow rM_cutRow iM_breaths iM_cutMany iM_allBreaths rM_trial rM_words iM_fewestBreaths iM_orderMany iM_orderSum iM_leastOrder rM_often iM_setMany iM_someOf iM_allOf iM_allWeight iM_enoughWeight iM_worthSum iM_firstRest iM_leastDrawn), (arI rM_r kM_r 287 fM_r), (arI rM_told kM_told 90 fM_told), (arI rM_st kM_st 90 fM_st)] sz) := by
  refine Met.ofW (cc := cX7_bestOf) (maxL := 3) (ret := (some .int)) (by decide) rfl ?_
  intro p e s m args below meth c s₁ B hml hv
  obtain ⟨rfl, hsz, hP, hK, hD0, hE⟩ := hv
  have hx := B.exec
  have hb := B.bytes
  have hr := B.returns
  have hts : ∀ w ∈ wG, w.before ([.ref oM, .int p0] : List Value).toArray s = true := fun w h => atoms_spec (ws := Cond.code yX7_bestOf cX7_bestOf 3 (some .int) :: wG) B.pre w (List.mem_cons_of_mem _ h)
  have hown : s.vm.findClass RX7 = some m.cls := findClass_of_methodNamed B.named
  have hlocks := B.notSynchronized
  subst hsz
  have hD := hD0.self (sz := s.heap.size)
  generalize hAe : va_A [(oc7 oM iM_thrown rM_tape iM_taped iM_size iM_at iM_end iM_token iM_whole iM_nameSize iM_fault iM_place iM_trouble rM_letters iM_failed iM_hasCourt rM_r rM_fresh rM_told rM_read rM_st rM_undone rM_kept iM_undos iM_images rM_fresher iM_fresherSize iM_scale iM_night rM_heardRow rM_cutRow iM_breaths iM_cutMany iM_allBreaths rM_trial rM_words iM_fewestBreaths iM_orderMany iM_orderSum iM_leastOrder rM_often iM_setMany iM_someOf iM_allOf iM_allWeight iM_enoughWeight iM_worthSum iM_firstRest iM_leastDrawn), (arI rM_r kM_r 287 fM_r), (arI rM_told kM_told 90 fM_told), (arI rM_st kM_st 90 fM_st)] s.heap.size = A at hD hE ⊢
  have hA : ∀ q : Nat, s.heap.size ≤ q → A q := fun q h => by rw [← hAe]; exact Or.inr h
  have hS : va_S A s.heap s.heap [] := va_S.rf
  have hl := lv_entry ([.ref oM, .int p0]) (n := 3) (Nat.le_of_ble_eq_true rfl)
  rw [lg_entry_eq]
  generalize (lg_sl ([.ref oM, .int p0]) ++ List.replicate (3 - (lg_sl ([.ref oM, .int p0])).length) Slot.unset).toArray = ls at hl ⊢
  have hl : lv_has ls 3 [(0, .ref oM), (1, .int p0)] := hl
  have hG := PX7_bestOf_eq fM_r fM_told fM_st iM_scale iM_night p0
  have s_slips := r_R.slips
  have s_nodes := r_R.nodes
  have s_uns := r_R.uns
  have q_p0 := ti_cl (x := p0) rfl (by omega)
  have mn_p0 := r_R.many (27 + p0.toNatClampNeg) (by omega) (by omega)
  have kn_p0 := r_R.kind (9 + p0.toNatClampNeg) (by omega) (by omega)
  have in_p0 := r_R.inner p0.toNatClampNeg (by omega)
  refine lv_aload_n hx hb dX7_bestOf_0 rfl (lv_at hl 0 rfl) ?_
  refine va_get (D := (dC, dI)) (ci := 7) (v := .ref rM_r) (C := RX7) (T := TX7) (N := 48) hx hb hts inX7 hown hK hP 0 rfl rfl 15 (by decide) (hts _ wd_155) (fun _ h9 => h9) rfl dX7_bestOf_1 ?_
  refine lv_bipush (v := 9) hx hb dX7_bestOf_4 (by decide) ?_
  refine lv_iload_n hx hb dX7_bestOf_6 rfl (lv_at hl 1 rfl) ?_
  refine lv_iadd hx hb dX7_bestOf_7 ?_
  refine lv_topi (fun x_4704 ex_4704 => ?_)
  have hG := hG.trans (lt_eq ex_4704)
  have vx_4704 : x_4704.toInt = p0.toInt + 9 := by have q := ti_add ex_4704 kc_9 rfl (by omega) (by omega); omega
  refine va_iald hx hb hK hP 1 0 rfl rfl (ti_in vx_4704 (by omega) (by omega)) dX7_bestOf_8 ?_
  refine lv_topi (fun x_4705 ex_4705 => ?_)
  have hG := hG.trans (lt_eq ex_4705)
  have kx_4705 : (fM_r x_4704.toNatClampNeg).toInt = x_4705.toInt := by rw [ex_4705]
  have cx_4705 : (fM_r (9 + p0.toNatClampNeg)).toInt = x_4705.toInt := by rw [show 9 + p0.toNatClampNeg = x_4704.toNatClampNeg from by have q9 := ti_cl (x := x_4704) vx_4704 (by omega); have q_p0 := ti_cl (x := p0) rfl (by omega); omega]; exact kx_4705
  have sx_4705 := r_R.kind x_4704.toNatClampNeg (by have q9 := ti_cl (x := x_4704) vx_4704 (by omega); omega) (by have q9 := ti_cl (x := x_4704) vx_4704 (by omega); omega)
  refine lv_iconst (v := 1) hx hb dX7_bestOf_9 (by decide) ?_
  refine lv_icmp_eq (tgt := 29) hx hb dX7_bestOf_10 (by decide) (fun c_4706 => ?_) (fun c_4706 => ?_)
  · skip
    have hG := hG.trans (if_pos c_4706)
    have gc_4706 := ti_eq c_4706 rfl kc_1
    refine lv_iconst (v := 0) hx hb dX7_bestOf_29 (by decide) ?_
    refine lv_istore_n (lv' := [(2, .int 0), (0, .ref oM), (1, .int p0)]) hx hb dX7_bestOf_30 rfl hl (by decide) rfl (fun ls hl => ?_)
    have hl := lv_sub hl (l' := [(2, .int 0), (0, .ref oM), (1, .int p0)]) [0, 1, 2] rfl
    have key_n_4708 : ∀ (n_4708 : Nat) (z_4707 : Int32) (H : Heap) (locs : List Loc) (ls : Array Slot), (0 ≤ z_4707.toInt ∧ z_4707.toInt < (fM_r (27 + p0.toNatClampNeg)).toInt) → (BestJ fM_r fM_told fM_st iM_scale p0.toNatClampNeg z_4707.toInt) → ((fM_r (27 + p0.toNatClampNeg)).toInt - z_4707.toInt).toNat < n_4708 → (PX7_bestOf fM_r fM_told fM_st iM_scale iM_night p0 = HX7_bestOf_0 fM_r fM_told fM_st iM_scale iM_night p0 n_4708 z_4707) → va_P (dC, dI) vwCl [(oc7 oM iM_thrown rM_tape iM_taped iM_size iM_at iM_end iM_token iM_whole iM_nameSize iM_fault iM_place iM_trouble rM_letters iM_failed iM_hasCourt rM_r rM_fresh rM_told rM_read rM_st rM_undone rM_kept iM_undos iM_images rM_fresher iM_fresherSize iM_scale iM_night rM_heardRow rM_cutRow iM_breaths iM_cutMany iM_allBreaths rM_trial rM_words iM_fewestBreaths iM_orderMany iM_orderSum iM_leastOrder rM_often iM_setMany iM_someOf iM_allOf iM_allWeight iM_enoughWeight iM_worthSum iM_firstRest iM_leastDrawn), (arI rM_r kM_r 287 fM_r), (arI rM_told kM_told 90 fM_told), (arI rM_st kM_st 90 fM_st)] H → va_D A [(oc7 oM iM_thrown rM_tape iM_taped iM_size iM_at iM_end iM_token iM_whole iM_nameSize iM_fault iM_place iM_trouble rM_letters iM_failed iM_hasCourt rM_r rM_fresh rM_told rM_read rM_st rM_undone rM_kept iM_undos iM_images rM_fresher iM_fresherSize iM_scale iM_night rM_heardRow rM_cutRow iM_breaths iM_cutMany iM_allBreaths rM_trial rM_words iM_fewestBreaths iM_orderMany iM_orderSum iM_leastOrder rM_often iM_setMany iM_someOf iM_allOf iM_allWeight iM_enoughWeight iM_worthSum iM_firstRest iM_leastDrawn), (arI rM_r kM_r 287 fM_r), (arI rM_told kM_told 90 fM_told), (arI rM_st kM_st 90 fM_st)] → va_S A s.heap H locs → lv_has ls 3 [(2, .int z_4707), (0, .ref oM), (1, .int p0)] → W p l e (headSpec (Cond.code yX7_bestOf cX7_bestOf 3 (some .int) :: wG) ({ frames := 21, cells := 0, slots := 0, locals := 564 })).room s m ([.ref oM, .int p0] : List Value).toArray below meth c H locs 0 0 (MQ below (va_Qi (fun (r : Int32) (_ : Nat) => (True ∧ (-2 ≤ r.toInt ∧ r.toInt < p0.toInt ∧ r.toInt ≤ 17)) ∧ PX7_bestOf fM_r fM_told fM_st iM_scale iM_night p0 = r) (fun (_ : Nat) (t : State) => Bw dC dI A [(oc7 oM iM_thrown rM_tape iM_taped iM_size iM_at iM_end iM_token iM_whole iM_nameSize iM_fault iM_place iM_trouble rM_letters iM_failed iM_hasCourt rM_r rM_fresh rM_told rM_read rM_st rM_undone rM_kept iM_undos iM_images rM_fresher iM_fresherSize iM_scale iM_night rM_heardRow rM_cutRow iM_breaths iM_cutMany iM_allBreaths rM_trial rM_words iM_fewestBreaths iM_orderMany iM_orderSum iM_leastOrder rM_often iM_setMany iM_someOf iM_allOf iM_allWeight iM_enoughWeight iM_worthSum iM_firstRest iM_leastDrawn), (arI rM_r kM_r 287 fM_r), (arI rM_told kM_told 90 fM_told), (arI rM_st kM_st 90 fM_st)] [(kM_r, .int), (kM_told, .int), (kM_st, .int)] t) A) ([.ref oM, .int p0] : List Value).toArray s 0 0 A) (F0 m 31 ls []) := by
      intro n_4708
      induction n_4708 with
      | zero => intro z_4707 H locs ls hi0_n_4708 hi1_n_4708 hm; exact absurd hm (by omega)
      | succ n_4708 ih_n_4708 =>
        intro z_4707 H locs ls hi0_n_4708 hi1_n_4708 hm hG hP hD hS hl
        have hG := hG.trans (HX7_bestOf_0_eq _ _ _ _ _ _ _ _)
        refine lv_aload_n hx hb dX7_bestOf_31 rfl (lv_at hl 1 rfl) ?_
        refine lv_aload_n hx hb dX7_bestOf_32 rfl (lv_at hl 1 rfl) ?_
        refine va_get (D := (dC, dI)) (ci := 7) (v := .ref rM_st) (C := RX7) (T := TX7) (N := 48) hx hb hts inX7 hown hK hP 0 rfl rfl 19 (by decide) (hts _ wd_159) (fun _ h9 => h9) rfl dX7_bestOf_33 ?_
        refine lv_aload_n hx hb dX7_bestOf_36 rfl (lv_at hl 1 rfl) ?_
        refine va_get (D := (dC, dI)) (ci := 7) (v := .ref rM_st) (C := RX7) (T := TX7) (N := 48) hx hb hts inX7 hown hK hP 0 rfl rfl 19 (by decide) (hts _ wd_159) (fun _ h9 => h9) rfl dX7_bestOf_37 ?_
        refine lv_iconst (v := 4) hx hb dX7_bestOf_40 (by decide) ?_
        refine lv_iload_n hx hb dX7_bestOf_41 rfl (lv_at hl 2 rfl) ?_
        refine lv_imul hx hb dX7_bestOf_42 ?_
        refine lv_topi (fun x_4709 ex_4709 => ?_)
        have hG := hG.trans (lt_eq ex_4709)
        have vx_4709 : x_4709.toInt = 4 * p0.toInt := by have q := ti_mul ex_4709 kc_4 rfl (by omega) (by omega); omega
        refine lv_iload_n hx hb dX7_bestOf_43 rfl (lv_at hl 0 rfl) ?_
        refine lv_iadd hx hb dX7_bestOf_44 ?_
        refine lv_topi (fun x_4710 ex_4710 => ?_)
        have hG := hG.trans (lt_eq ex_4710)
        have vx_4710 : x_4710.toInt = 4 * p0.toInt + z_4707.toInt := by have q := ti_add ex_4710 vx_4709 rfl (by omega) (by omega); omega
        refine va_iald hx hb hK hP 3 2 rfl rfl (ti_in vx_4710 (by omega) (by omega)) dX7_bestOf_45 ?_
        refine lv_topi (fun x_4711 ex_4711 => ?_)
        have hG := hG.trans (lt_eq ex_4711)
        have kx_4711 : (fM_st x_4710.toNatClampNeg).toInt = x_4711.toInt := by rw [ex_4711]
        have cx_4711 : (fM_st (4 * p0.toNatClampNeg + z_4707.toNatClampNeg)).toInt = x_4711.toInt := by rw [show 4 * p0.toNatClampNeg + z_4707.toNatClampNeg = x_4710.toNatClampNeg from by have q9 := ti_cl (x := x_4710) vx_4710 (by omega); have q_p0 := ti_cl (x := p0) rfl (by omega); have q_z_4707 := ti_cl (x := z_4707) rfl (by omega); omega]; exact kx_4711
        have wx_4711 := r_st.lt p0.toNatClampNeg (z_4707.toNatClampNeg) (by have q_1 := ti_cl (x := p0) rfl (by omega); have q_2 := ti_cl (x := z_4707) rfl (by omega); omega) (by have q_1 := ti_cl (x := p0) rfl (by omega); have q_2 := ti_cl (x := z_4707) rfl (by omega); omega)
        have wx_4711 : 0 ≤ x_4711.toInt ∧ x_4711.toInt < p0.toInt := by have q_1 := ti_cl (x := p0) rfl (by omega); have q_2 := ti_cl (x := z_4707) rfl (by omega); have q_3 := cx_4711; rw [show 4 * p0.toNatClampNeg + (z_4707.toNatClampNeg) = 4 * p0.toNatClampNeg + z_4707.toNatClampNeg from by omega] at wx_4711; omega
        have hFc := va_free (wc := [(oc7 oM iM_thrown rM_tape iM_taped iM_size iM_at iM_end iM_token iM_whole iM_nameSize iM_fault iM_place iM_trouble rM_letters iM_failed iM_hasCourt rM_r rM_fresh rM_told rM_read rM_st rM_undone rM_kept iM_undos iM_images rM_fresher iM_fresherSize iM_scale iM_night rM_heardRow rM_cutRow iM_breaths iM_cutMany iM_allBreaths rM_trial rM_words iM_fewestBreaths iM_orderMany iM_orderSum iM_leastOrder rM_often iM_setMany iM_someOf iM_allOf iM_allWeight iM_enoughWeight iM_worthSum iM_firstRest iM_leastDrawn), (arI rM_r kM_r 287 fM_r), (arI rM_told kM_told 90 fM_told), (arI rM_st kM_st 90 fM_st)]) hD hS hA [0, 1, 2, 3] rfl
        refine va_calli (va_runV (As := [.ref rM_st, .int x_4711]) (rest := []) ⟨hx, hb, hml, hown, hts⟩ (tX7_worthOf_x l dC dI _ oM iM_thrown rM_tape iM_taped iM_size iM_at iM_end iM_token iM_whole iM_nameSize iM_fault iM_place iM_trouble rM_letters iM_failed iM_hasCourt rM_r fM_r kM_r rM_fresh rM_told fM_told kM_told rM_read rM_st rM_undone rM_kept iM_undos iM_images rM_fresher iM_fresherSize iM_scale iM_night rM_heardRow rM_cutRow iM_breaths iM_cutMany iM_allBreaths rM_trial rM_words iM_fewestBreaths iM_orderMany iM_orderSum iM_leastOrder rM_often iM_setMany iM_someOf iM_allOf iM_allWeight iM_enoughWeight iM_worthSum iM_firstRest iM_leastDrawn rM_st fM_st kM_st x_4711 (by first | omega | decide) (by first | omega | decide) (by first | omega | decide) (by first | omega | decide) (by first | omega | decide) (by first | omega | decide) (by first | omega | decide) (by first | omega | decide) (by first | omega | decide) (by first | omega | decide) (by assumption) (by assumption) (by assumption) (by assumption) (by first | omega | decide | assumption | (have q0 := kc_0; have q1 := kc_1; omega) | (intro h; exact absurd h (by decide))) (by first | omega | decide | assumption | (have q0 := kc_0; have q1 := kc_1; omega) | (intro h; exact absurd h (by decide)))) (cwV 2 hts (wd_V wd_645 wd_646 wd_647 wd_5 (wd_c wd_648)) rfl rfl rfl (by decide +kernel) ⟨Nat.le_of_ble_eq_true rfl, Nat.le_of_ble_eq_true rfl⟩) ⟨Pw.fb, va_recv hK hP (ci := 7) (q0 := 0) rfl rfl, fun U hU hW => Pw.to (hP.sub [0, 1, 2, 3] rfl) (hD.sub [0, 1, 2, 3] (by decide) rfl) (hK.sub [0, 1, 2] rfl) hE hS hFc hU hW⟩ rfl rfl hl.1 rfl (lv_room (Nat.le_of_ble_eq_true rfl)) dX7_bestOf_46 ⟨Nat.le_of_ble_eq_true rfl, Nat.le_of_ble_eq_true rfl⟩) hS (fun q _ h => hFc q h) hFc (fun r u t H locs ht hvm hw hB hz1 hk1 hS => ?_)
        have hru9 := hw.2
        have hw := hw.1
        obtain ⟨hP, hD, hK⟩ := Bw.go (ws' := [(oc7 oM iM_thrown rM_tape iM_taped iM_size iM_at iM_end iM_token iM_whole iM_nameSize iM_fault iM_place iM_trouble rM_letters iM_failed iM_hasCourt rM_r rM_fresh rM_told rM_read rM_st rM_undone rM_kept iM_undos iM_images rM_fresher iM_fresherSize iM_scale iM_night rM_heardRow rM_cutRow iM_breaths iM_cutMany iM_allBreaths rM_trial rM_words iM_fewestBreaths iM_orderMany iM_orderSum iM_leastOrder rM_often iM_setMany iM_someOf iM_allOf iM_allWeight iM_enoughWeight iM_worthSum iM_firstRest iM_leastDrawn), (arI rM_r kM_r 287 fM_r), (arI rM_told kM_told 90 fM_told), (arI rM_st kM_st 90 fM_st)]) (tys' := [(kM_r, .int), (kM_told, .int), (kM_st, .int)]) hB rfl ht hvm hP hD hK [0, 1, 2, 3] [] rfl (by decide) (by decide) [] hk1 hFc rfl rfl rfl
        clear hz1 hk1 hvm ht hB
        obtain ⟨x_4712, rfl⟩ : ∃ z, z = r := ⟨_, rfl⟩
        have hG := hG.trans (lt_eq hru9.symm)
        have lx_4712 := hw.2
        refine lv_aload_n hx hb dX7_bestOf_49 rfl (lv_at hl 1 rfl) ?_
        refine lv_aload_n hx hb dX7_bestOf_50 rfl (lv_at hl 1 rfl) ?_
        refine va_get (D := (dC, dI)) (ci := 7) (v := .ref rM_st) (C := RX7) (T := TX7) (N := 48) hx hb hts inX7 hown hK hP 0 rfl rfl 19 (by decide) (hts _ wd_159) (fun _ h9 => h9) rfl dX7_bestOf_51 ?_
        refine lv_iload_n hx hb dX7_bestOf_54 rfl (lv_at hl 2 rfl) ?_
        have hFc := va_free (wc := [(oc7 oM iM_thrown rM_tape iM_taped iM_size iM_at iM_end iM_token iM_whole iM_nameSize iM_fault iM_place iM_trouble rM_letters iM_failed iM_hasCourt rM_r rM_fresh rM_told rM_read rM_st rM_undone rM_kept iM_undos iM_images rM_fresher iM_fresherSize iM_scale iM_night rM_heardRow rM_cutRow iM_breaths iM_cutMany iM_allBreaths rM_trial rM_words iM_fewestBreaths iM_orderMany iM_orderSum iM_leastOrder rM_often iM_setMany iM_someOf iM_allOf iM_allWeight iM_enoughWeight iM_worthSum iM_firstRest iM_leastDrawn), (arI rM_r kM_r 287 fM_r), (arI rM_told kM_told 90 fM_told), (arI rM_st kM_st 90 fM_st)]) hD hS hA [0, 1, 2, 3] rfl
        refine va_calli (va_runV (As := [.ref rM_st, .int p0]) (rest := [.int x_4712]) ⟨hx, hb, hml, hown, hts⟩ (tX7_worthOf_x l dC dI _ oM iM_thrown rM_tape iM_taped iM_size iM_at iM_end iM_token iM_whole iM_nameSize iM_fault iM_place iM_trouble rM_letters iM_failed iM_hasCourt rM_r fM_r kM_r rM_fresh rM_told fM_told kM_told rM_read rM_st rM_undone rM_kept iM_undos iM_images rM_fresher iM_fresherSize iM_scale iM_night rM_heardRow rM_cutRow iM_breaths iM_cutMany iM_allBreaths rM_trial rM_words iM_fewestBreaths iM_orderMany iM_orderSum iM_leastOrder rM_often iM_setMany iM_someOf iM_allOf iM_allWeight iM_enoughWeight iM_worthSum iM_firstRest iM_leastDrawn rM_st fM_st kM_st p0 (by first | omega | decide) (by first | omega | decide) (by first | omega | decide) (by first | omega | decide) (by first | omega | decide) (by first | omega | decide) (by first | omega | decide) (by first | omega | decide) (by first | omega | decide) (by first | omega | decide) (by assumption) (by assumption) (by assumption) (by assumption) (by first | omega | decide | assumption | (have q0 := kc_0; have q1 := kc_1; omega) | (intro h; exact absurd h (by decide))) (by first | omega | decide | assumption | (have q0 := kc_0; have q1 := kc_1; omega) | (intro h; exact absurd h (by decide)))) (cwV 2 hts (wd_V wd_645 wd_646 wd_647 wd_5 (wd_c wd_648)) rfl rfl rfl (by decide +kernel) ⟨Nat.le_of_ble_eq_true rfl, Nat.le_of_ble_eq_true rfl⟩) ⟨Pw.fb, va_recv hK hP (ci := 7) (q0 := 0) rfl rfl, fun U hU hW => Pw.to (hP.sub [0, 1, 2, 3] rfl) (hD.sub [0, 1, 2, 3] (by decide) rfl) (hK.sub [0, 1, 2] rfl) hE hS hFc hU hW⟩ rfl rfl hl.1 rfl (lv_room (Nat.le_of_ble_eq_true rfl)) dX7_bestOf_55 ⟨Nat.le_of_ble_eq_true rfl, Nat.le_of_ble_eq_true rfl⟩) hS (fun q _ h => hFc q h) hFc (fun r u t H locs ht hvm hw hB hz1 hk1 hS => ?_)
        have hru9 := hw.2
        have hw := hw.1
        obtain ⟨hP, hD, hK⟩ := Bw.go (ws' := [(oc7 oM iM_thrown rM_tape iM_taped iM_size iM_at iM_end iM_token iM_whole iM_nameSize iM_fault iM_place iM_trouble rM_letters iM_failed iM_hasCourt rM_r rM_fresh rM_told rM_read rM_st rM_undone rM_kept iM_undos iM_images rM_fresher iM_fresherSize iM_scale iM_night rM_heardRow rM_cutRow iM_breaths iM_cutMany iM_allBreaths rM_trial rM_words iM_fewestBreaths iM_orderMany iM_orderSum iM_leastOrder rM_often iM_setMany iM_someOf iM_allOf iM_allWeight iM_enoughWeight iM_worthSum iM_firstRest iM_leastDrawn), (arI rM_r kM_r 287 fM_r), (arI rM_told kM_told 90 fM_told), (arI rM_st kM_st 90 fM_st)]) (tys' := [(kM_r, .int), (kM_told, .int), (kM_st, .int)]) hB rfl ht hvm hP hD hK [0, 1, 2, 3] [] rfl (by decide) (by decide) [] hk1 hFc rfl rfl rfl
        clear hz1 hk1 hvm ht hB
        obtain ⟨x_4713, rfl⟩ : ∃ z, z = r := ⟨_, rfl⟩
        have hG := hG.trans (lt_eq hru9.symm)
        have lx_4713 := hw.2
        refine lv_icmp_eq (tgt := 67) hx hb dX7_bestOf_58 (by decide) (fun c_4714 => ?_) (fun c_4714 => ?_)
        · skip
          have hG := hG.trans (if_pos c_4714)
          have gc_4714 := ti_eq c_4714 rfl rfl
          refine lv_aload_n hx hb dX7_bestOf_67 rfl (lv_at hl 1 rfl) ?_
          refine va_get (D := (dC, dI)) (ci := 7) (v := .ref rM_st) (C := RX7) (T := TX7) (N := 48) hx hb hts inX7 hown hK hP 0 rfl rfl 19 (by decide) (hts _ wd_159) (fun _ h9 => h9) rfl dX7_bestOf_68 ?_
          refine lv_iconst (v := 4) hx hb dX7_bestOf_71 (by decide) ?_
          refine lv_iload_n hx hb dX7_bestOf_72 rfl (lv_at hl 2 rfl) ?_
          refine lv_imul hx hb dX7_bestOf_73 ?_
          refine lv_topi (fun x_4715 ex_4715 => ?_)
          have hG := hG.trans (lt_eq ex_4715)
          have vx_4715 : x_4715.toInt = 4 * p0.toInt := by have q := ti_mul ex_4715 kc_4 rfl (by omega) (by omega); omega
          refine lv_iload_n hx hb dX7_bestOf_74 rfl (lv_at hl 0 rfl) ?_
          refine lv_iadd hx hb dX7_bestOf_75 ?_
          refine lv_topi (fun x_4716 ex_4716 => ?_)
          have hG := hG.trans (lt_eq ex_4716)
          have vx_4716 : x_4716.toInt = 4 * p0.toInt + z_4707.toInt := by have q := ti_add ex_4716 vx_4715 rfl (by omega) (by omega); omega
          refine va_iald hx hb hK hP 3 2 rfl rfl (ti_in vx_4716 (by omega) (by omega)) dX7_bestOf_76 ?_
          refine lv_topi (fun x_4717 ex_4717 => ?_)
          have hG := hG.trans (lt_eq ex_4717)
          have kx_4717 : (fM_st x_4716.toNatClampNeg).toInt = x_4717.toInt := by rw [ex_4717]
          have cx_4717 : (fM_st (4 * p0.toNatClampNeg + z_4707.toNatClampNeg)).toInt = x_4717.toInt := by rw [show 4 * p0.toNatClampNeg + z_4707.toNatClampNeg = x_4716.toNatClampNeg from by have q9 := ti_cl (x := x_4716) vx_4716 (by omega); have q_p0 := ti_cl (x := p0) rfl (by omega); have q_z_4707 := ti_cl (x := z_4707) rfl (by omega); omega]; exact kx_4717
          have wx_4717 := r_st.lt p0.toNatClampNeg (z_4707.toNatClampNeg) (by have q_1 := ti_cl (x := p0) rfl (by omega); have q_2 := ti_cl (x := z_4707) rfl (by omega); omega) (by have q_1 := ti_cl (x := p0) rfl (by omega); have q_2 := ti_cl (x := z_4707) rfl (by omega); omega)
          have wx_4717 : 0 ≤ x_4717.toInt ∧ x_4717.toInt < p0.toInt := by have q_1 := ti_cl (x := p0) rfl (by omega); have q_2 := ti_cl (x := z_4707) rfl (by omega); have q_3 := cx_4717; rw [show 4 * p0.toNatClampNeg + (z_4707.toNatClampNeg) = 4 * p0.toNatClampNeg + z_4707.toNatClampNeg from by omega] at wx_4717; omega
          exact W.iret hx hb hr (fun t ht hW => ⟨⟨_, 0, rfl, ⟨⟨trivial, (by first | omega | assumption)⟩, hG⟩, Bw.to (hP.sub [0, 1, 2, 3] rfl) (hD.sub [0, 1, 2, 3] (by decide) rfl) (hK.sub [0, 1, 2] rfl) ht hW⟩, hS.F ht⟩) hS.2.2 dX7_bestOf_77
        · skip
          have hG := hG.trans (if_neg c_4714)
          have gc_4714 := ti_ne c_4714 rfl rfl
          obtain ⟨x_4718, ex_4718⟩ : ∃ z : Int32, z = z_4707 + Int32.ofInt 1 := ⟨_, rfl⟩
          have hG := hG.trans (lt_eq ex_4718)
          have vx_4718 : x_4718.toInt = z_4707.toInt + 1 := by have q := ti_add (y := 1) ex_4718 rfl kc_1 (by omega) (by omega); omega
          refine lv_iinc (v := x_4718) (lv' := [(2, .int x_4718), (0, .ref oM), (1, .int p0)]) hx hb dX7_bestOf_61 hl (k := 0) rfl ex_4718.symm (by decide) rfl (fun ls hl => ?_)
          refine lv_goto (tgt := 31) hx hb dX7_bestOf_64 (by decide) ?_
          have ex9 : BestJ fM_r fM_told fM_st iM_scale p0.toNatClampNeg x_4718.toInt := best_go (n := z_4707.toNatClampNeg) hi1_n_4708 (by have q1 := ti_cl (x := z_4707) rfl (by omega); omega) (by have q := cx_4711; rw [show 4 * p0.toNatClampNeg + z_4707.toNatClampNeg = 4 * p0.toNatClampNeg + z_4707.toNatClampNeg from by omega]; exact q) lx_4712 lx_4713 (by omega) (by omega)
          exact ih_n_4708 x_4718 _ _ _  (by have q9 := best_lt ex9; omega) ex9 (by omega) hG (hP.sub [0, 1, 2, 3] rfl) (hD.sub [0, 1, 2, 3] (by decide) rfl) hS (lv_sub hl [0, 1, 2] rfl)
    have be9 := best_ex (ft := fM_told) (sc := iM_scale) r_R r_st r_wst (by omega) (k := p0.toNatClampNeg) (by omega) (by omega)
    have mm9 : 1 ≤ (fM_r (27 + p0.toNatClampNeg)).toInt := in_p0 (by omega)
    have bf9 : BestJ fM_r fM_told fM_st iM_scale p0.toNatClampNeg (0 : Int32).toInt := best_start (by have q := kc_0; omega) be9
    clear be9
    exact key_n_4708 ((((fM_r (27 + p0.toNatClampNeg)).toInt - (0 : Int32).toInt).toNat) + 1) 0 _ _ _  (by first | omega | decide | assumption | (have q0 := kc_0; have q1 := kc_1; omega)) (by first | omega | decide | assumption | (have q0 := kc_0; have q1 := kc_1; omega)) (by omega) hG hP hD hS hl
  · skip
    have hG := hG.trans (if_neg c_4706)
    have gc_4706 := ti_ne c_4706 rfl kc_1
    refine lv_aload_n hx hb dX7_bestOf_13 rfl (lv_at hl 0 rfl) ?_
    refine va_get (D := (dC, dI)) (ci := 7) (v := .ref rM_r) (C := RX7) (T := TX7) (N := 48) hx hb hts inX7 hown hK hP 0 rfl rfl 15 (by decide) (hts _ wd_155) (fun _ h9 => h9) rfl dX7_bestOf_14 ?_
    refine lv_bipush (v := 9) hx hb dX7_bestOf_17 (by decide) ?_
    refine lv_iload_n hx hb dX7_bestOf_19 rfl (lv_at hl 1 rfl) ?_
    refine lv_iadd hx hb dX7_bestOf_20 ?_
    refine lv_topi (fun x_4719 ex_4719 => ?_)
    have hG := hG.trans (lt_eq ex_4719)
    have vx_4719 : x_4719.toInt = p0.toInt + 9 := by have q := ti_add ex_4719 kc_9 rfl (by omega) (by omega); omega
    refine va_iald hx hb hK hP 1 0 rfl rfl (ti_in vx_4719 (by omega) (by omega)) dX7_bestOf_21 ?_
    refine lv_topi (fun x_4720 ex_4720 => ?_)
    have hG := hG.trans (lt_eq ex_4720)
    have kx_4720 : (fM_r x_4719.toNatClampNeg).toInt = x_4720.toInt := by rw [ex_4720]
    have cx_4720 : (fM_r (9 + p0.toNatClampNeg)).toInt = x_4720.toInt := by rw [show 9 + p0.toNatClampNeg = x_4719.toNatClampNeg from by have q9 := ti_cl (x := x_4719) vx_4719 (by omega); have q_p0 := ti_cl (x := p0) rfl (by omega); omega]; exact kx_4720
    have sx_4720 := r_R.kind x_4719.toNatClampNeg (by have q9 := ti_cl (x := x_4719) vx_4719 (by omega); omega) (by have q9 := ti_cl (x := x_4719) vx_4719 (by omega); omega)
    refine lv_iconst (v := 2) hx hb dX7_bestOf_22 (by decide) ?_
    refine lv_icmp_eq (tgt := 29) hx hb dX7_bestOf_23 (by decide) (fun c_4721 => ?_) (fun c_4721 => ?_)
    · skip
      have hG := hG.trans (if_pos c_4721)
      have gc_4721 := ti_eq c_4721 rfl kc_2
      refine lv_iconst (v := 0) hx hb dX7_bestOf_29 (by decide) ?_
      refine lv_istore_n (lv' := [(2, .int 0), (0, .ref oM), (1, .int p0)]) hx hb dX7_bestOf_30 rfl hl (by decide) rfl (fun ls hl => ?_)
      have hl := lv_sub hl (l' := [(2, .int 0), (0, .ref oM), (1, .int p0)]) [0, 1, 2] rfl
      have key_n_4723 : ∀ (n_4723 : Nat) (z_4722 : Int32) (H : Heap) (locs : List Loc) (ls : Array Slot), (0 ≤ z_4722.toInt ∧ z_4722.toInt < (fM_r (27 + p0.toNatClampNeg)).toInt) → (BestJ fM_r fM_told fM_st iM_scale p0.toNatClampNeg z_4722.toInt) → ((fM_r (27 + p0.toNatClampNeg)).toInt - z_4722.toInt).toNat < n_4723 → (PX7_bestOf fM_r fM_told fM_st iM_scale iM_night p0 = HX7_bestOf_0 fM_r fM_told fM_st iM_scale iM_night p0 n_4723 z_4722) → va_P (dC, dI) vwCl [(oc7 oM iM_thrown rM_tape iM_taped iM_size iM_at iM_end iM_token iM_whole iM_nameSize iM_fault iM_place iM_trouble rM_letters iM_failed iM_hasCourt rM_r rM_fresh rM_told rM_read rM_st rM_undone rM_kept iM_undos iM_images rM_fresher iM_fresherSize iM_scale iM_night rM_heardRow rM_cutRow iM_breaths iM_cutMany iM_allBreaths rM_trial rM_words iM_fewestBreaths iM_orderMany iM_orderSum iM_leastOrder rM_often iM_setMany iM_someOf iM_allOf iM_allWeight iM_enoughWeight iM_worthSum iM_firstRest iM_leastDrawn), (arI rM_r kM_r 287 fM_r), (arI rM_told kM_told 90 fM_told), (arI rM_st kM_st 90 fM_st)] H → va_D A [(oc7 oM iM_thrown rM_tape iM_taped iM_size iM_at iM_end iM_token iM_whole iM_nameSize iM_fault iM_place iM_trouble rM_letters iM_failed iM_hasCourt rM_r rM_fresh rM_told rM_read rM_st rM_undone rM_kept iM_undos iM_images rM_fresher iM_fresherSize iM_scale iM_night rM_heardRow rM_cutRow iM_breaths iM_cutMany iM_allBreaths rM_trial rM_words iM_fewestBreaths iM_orderMany iM_orderSum iM_leastOrder rM_often iM_setMany iM_someOf iM_allOf iM_allWeight iM_enoughWeight iM_worthSum iM_firstRest iM_leastDrawn), (arI rM_r kM_r 287 fM_r), (arI rM_told kM_told 90 fM_told), (arI rM_st kM_st 90 fM_st)] → va_S A s.heap H locs → lv_has ls 3 [(2, .int z_4722), (0, .ref oM), (1, .int p0)] → W p l e (headSpec (Cond.code yX7_bestOf cX7_bestOf 3 (some .int) :: wG) ({ frames := 21, cells := 0, slots := 0, locals := 564 })).room s m ([.ref oM, .int p0] : List Value).toArray below meth c H locs 0 0 (MQ below (va_Qi (fun (r : Int32) (_ : Nat) => (True ∧ (-2 ≤ r.toInt ∧ r.toInt < p0.toInt ∧ r.toInt ≤ 17)) ∧ PX7_bestOf fM_r fM_told fM_st iM_scale iM_night p0 = r) (fun (_ : Nat) (t : State) => Bw dC dI A [(oc7 oM iM_thrown rM_tape iM_taped iM_size iM_at iM_end iM_token iM_whole iM_nameSize iM_fault iM_place iM_trouble rM_letters iM_failed iM_hasCourt rM_r rM_fresh rM_told rM_read rM_st rM_undone rM_kept iM_undos iM_images rM_fresher iM_fresherSize iM_scale iM_night rM_heardRow rM_cutRow iM_breaths iM_cutMany iM_allBreaths rM_trial rM_words iM_fewestBreaths iM_orderMany iM_orderSum iM_leastOrder rM_often iM_setMany iM_someOf iM_allOf iM_allWeight iM_enoughWeight iM_worthSum iM_firstRest iM_leastDrawn), (arI rM_r kM_r 287 fM_r), (arI rM_told kM_told 90 fM_told), (arI rM_st kM_st 90 fM_st)] [(kM_r, .int), (kM_told, .int), (kM_st, .int)] t) A) ([.ref oM, .int p0] : List Value).toArray s 0 0 A) (F0 m 31 ls []) := by
        intro n_4723
        induction n_4723 with
        | zero => intro z_4722 H locs ls hi0_n_4723 hi1_n_4723 hm; exact absurd hm (by omega)
        | succ n_4723 ih_n_4723 =>
          intro z_4722 H locs ls hi0_n_4723 hi1_n_4723 hm hG hP hD hS hl
          have hG := hG.trans (HX7_bestOf_0_eq _ _ _ _ _ _ _ _)
          refine lv_aload_n hx hb dX7_bestOf_31 rfl (lv_at hl 1 rfl) ?_
          refine lv_aload_n hx hb dX7_bestOf_32 rfl (lv_at hl 1 rfl) ?_
          refine va_get (D := (dC, dI)) (ci := 7) (v := .ref rM_st) (C := RX7) (T := TX7) (N := 48) hx hb hts inX7 hown hK hP 0 rfl rfl 19 (by decide) (hts _ wd_159) (fun _ h9 => h9) rfl dX7_bestOf_33 ?_
          refine lv_aload_n hx hb dX7_bestOf_36 rfl (lv_at hl 1 rfl) ?_
          refine va_get (D := (dC, dI)) (ci := 7) (v := .ref rM_st) (C := RX7) (T := TX7) (N := 48) hx hb hts inX7 hown hK hP 0 rfl rfl 19 (by decide) (hts _ wd_159) (fun _ h9 => h9) rfl dX7_bestOf_37 ?_
          refine lv_iconst (v := 4) hx hb dX7_bestOf_40 (by decide) ?_
          refine lv_iload_n hx hb dX7_bestOf_41 rfl (lv_at hl 2 rfl) ?_
          refine lv_imul hx hb dX7_bestOf_42 ?_
          refine lv_topi (fun x_4724 ex_4724 => ?_)
          have hG := hG.trans (lt_eq ex_4724)
          have vx_4724 : x_4724.toInt = 4 * p0.toInt := by have q := ti_mul ex_4724 kc_4 rfl (by omega) (by omega); omega
          refine lv_iload_n hx hb dX7_bestOf_43 rfl (lv_at hl 0 rfl) ?_
          refine lv_iadd hx hb dX7_bestOf_44 ?_
          refine lv_topi (fun x_4725 ex_4725 => ?_)
          have hG := hG.trans (lt_eq ex_4725)
          have vx_4725 : x_4725.toInt = 4 * p0.toInt + z_4722.toInt := by have q := ti_add ex_4725 vx_4724 rfl (by omega) (by omega); omega
          refine va_iald hx hb hK hP 3 2 rfl rfl (ti_in vx_4725 (by omega) (by omega)) dX7_bestOf_45 ?_
          refine lv_topi (fun x_4726 ex_4726 => ?_)
          have hG := hG.trans (lt_eq ex_4726)
          have kx_4726 : (fM_st x_4725.toNatClampNeg).toInt = x_4726.toInt := by rw [ex_4726]
          have cx_4726 : (fM_st (4 * p0.toNatClampNeg + z_4722.toNatClampNeg)).toInt = x_4726.toInt := by rw [show 4 * p0.toNatClampNeg + z_4722.toNatClampNeg = x_4725.toNatClampNeg from by have q9 := ti_cl (x := x_4725) vx_4725 (by omega); have q_p0 := ti_cl (x := p0) rfl (by omega); have q_z_4722 := ti_cl (x := z_4722) rfl (by omega); omega]; exact kx_4726
          have wx_4726 := r_st.lt p0.toNatClampNeg (z_4722.toNatClampNeg) (by have q_1 := ti_cl (x := p0) rfl (by omega); have q_2 := ti_cl (x := z_4722) rfl (by omega); omega) (by have q_1 := ti_cl (x := p0) rfl (by omega); have q_2 := ti_cl (x := z_4722) rfl (by omega); omega)
          have wx_4726 : 0 ≤ x_4726.toInt ∧ x_4726.toInt < p0.toInt := by have q_1 := ti_cl (x := p0) rfl (by omega); have q_2 := ti_cl (x := z_4722) rfl (by omega); have q_3 := cx_4726; rw [show 4 * p0.toNatClampNeg + (z_4722.toNatClampNeg) = 4 * p0.toNatClampNeg + z_4722.toNatClampNeg from by omega] at wx_4726; omega
          have hFc := va_free (wc := [(oc7 oM iM_thrown rM_tape iM_taped iM_size iM_at iM_end iM_token iM_whole iM_nameSize iM_fault iM_place iM_trouble rM_letters iM_failed iM_hasCourt rM_r rM_fresh rM_told rM_read rM_st rM_undone rM_kept iM_undos iM_images rM_fresher iM_fresherSize iM_scale iM_night rM_heardRow rM_cutRow iM_breaths iM_cutMany iM_allBreaths rM_trial rM_words iM_fewestBreaths iM_orderMany iM_orderSum iM_leastOrder rM_often iM_setMany iM_someOf iM_allOf iM_allWeight iM_enoughWeight iM_worthSum iM_firstRest iM_leastDrawn), (arI rM_r kM_r 287 fM_r), (arI rM_told kM_told 90 fM_told), (arI rM_st kM_st 90 fM_st)]) hD hS hA [0, 1, 2, 3] rfl
          refine va_calli (va_runV (As := [.ref rM_st, .int x_4726]) (rest := []) ⟨hx, hb, hml, hown, hts⟩ (tX7_worthOf_x l dC dI _ oM iM_thrown rM_tape iM_taped iM_size iM_at iM_end iM_token iM_whole iM_nameSize iM_fault iM_place iM_trouble rM_letters iM_failed iM_hasCourt rM_r fM_r kM_r rM_fresh rM_told fM_told kM_told rM_read rM_st rM_undone rM_kept iM_undos iM_images rM_fresher iM_fresherSize iM_scale iM_night rM_heardRow rM_cutRow iM_breaths iM_cutMany iM_allBreaths rM_trial rM_words iM_fewestBreaths iM_orderMany iM_orderSum iM_leastOrder rM_often iM_setMany iM_someOf iM_allOf iM_allWeight iM_enoughWeight iM_worthSum iM_firstRest iM_leastDrawn rM_st fM_st kM_st x_4726 (by first | omega | decide) (by first | omega | decide) (by first | omega | decide) (by first | omega | decide) (by first | omega | decide) (by first | omega | decide) (by first | omega | decide) (by first | omega | decide) (by first | omega | decide) (by first | omega | decide) (by assumption) (by assumption) (by assumption) (by assumption) (by first | omega | decide | assumption | (have q0 := kc_0; have q1 := kc_1; omega) | (intro h; exact absurd h (by decide))) (by first | omega | decide | assumption | (have q0 := kc_0; have q1 := kc_1; omega) | (intro h; exact absurd h (by decide)))) (cwV 2 hts (wd_V wd_645 wd_646 wd_647 wd_5 (wd_c wd_648)) rfl rfl rfl (by decide +kernel) ⟨Nat.le_of_ble_eq_true rfl, Nat.le_of_ble_eq_true rfl⟩) ⟨Pw.fb, va_recv hK hP (ci := 7) (q0 := 0) rfl rfl, fun U hU hW => Pw.to (hP.sub [0, 1, 2, 3] rfl) (hD.sub [0, 1, 2, 3] (by decide) rfl) (hK.sub [0, 1, 2] rfl) hE hS hFc hU hW⟩ rfl rfl hl.1 rfl (lv_room (Nat.le_of_ble_eq_true rfl)) dX7_bestOf_46 ⟨Nat.le_of_ble_eq_true rfl, Nat.le_of_ble_eq_true rfl⟩) hS (fun q _ h => hFc q h) hFc (fun r u t H locs ht hvm hw hB hz1 hk1 hS => ?_)
          have hru9 := hw.2
          have hw := hw.1
          obtain ⟨hP, hD, hK⟩ := Bw.go (ws' := [(oc7 oM iM_thrown rM_tape iM_taped iM_size iM_at iM_end iM_token iM_whole iM_nameSize iM_fault iM_place iM_trouble rM_letters iM_failed iM_hasCourt rM_r rM_fresh rM_told rM_read rM_st rM_undone rM_kept iM_undos iM_images rM_fresher iM_fresherSize iM_scale iM_night rM_heardRow rM_cutRow iM_breaths iM_cutMany iM_allBreaths rM_trial rM_words iM_fewestBreaths iM_orderMany iM_orderSum iM_leastOrder rM_often iM_setMany iM_someOf iM_allOf iM_allWeight iM_enoughWeight iM_worthSum iM_firstRest iM_leastDrawn), (arI rM_r kM_r 287 fM_r), (arI rM_told kM_told 90 fM_told), (arI rM_st kM_st 90 fM_st)]) (tys' := [(kM_r, .int), (kM_told, .int), (kM_st, .int)]) hB rfl ht hvm hP hD hK [0, 1, 2, 3] [] rfl (by decide) (by decide) [] hk1 hFc rfl rfl rfl
          clear hz1 hk1 hvm ht hB
          obtain ⟨x_4727, rfl⟩ : ∃ z, z = r := ⟨_, rfl⟩
          have hG := hG.trans (lt_eq hru9.symm)
          have lx_4727 := hw.2
          refine lv_aload_n hx hb dX7_bestOf_49 rfl (lv_at hl 1 rfl) ?_
          refine lv_aload_n hx hb dX7_bestOf_50 rfl (lv_at hl 1 rfl) ?_
          refine va_get (D := (dC, dI)) (ci := 7) (v := .ref rM_st) (C := RX7) (T := TX7) (N := 48) hx hb hts inX7 hown hK hP 0 rfl rfl 19 (by decide) (hts _ wd_159) (fun _ h9 => h9) rfl dX7_bestOf_51 ?_
          refine lv_iload_n hx hb dX7_bestOf_54 rfl (lv_at hl 2 rfl) ?_
          have hFc := va_free (wc := [(oc7 oM iM_thrown rM_tape iM_taped iM_size iM_at iM_end iM_token iM_whole iM_nameSize iM_fault iM_place iM_trouble rM_letters iM_failed iM_hasCourt rM_r rM_fresh rM_told rM_read rM_st rM_undone rM_kept iM_undos iM_images rM_fresher iM_fresherSize iM_scale iM_night rM_heardRow rM_cutRow iM_breaths iM_cutMany iM_allBreaths rM_trial rM_words iM_fewestBreaths iM_orderMany iM_orderSum iM_leastOrder rM_often iM_setMany iM_someOf iM_allOf iM_allWeight iM_enoughWeight iM_worthSum iM_firstRest iM_leastDrawn), (arI rM_r kM_r 287 fM_r), (arI rM_told kM_told 90 fM_told), (arI rM_st kM_st 90 fM_st)]) hD hS hA [0, 1, 2, 3] rfl
          refine va_calli (va_runV (As := [.ref rM_st, .int p0]) (rest := [.int x_4727]) ⟨hx, hb, hml, hown, hts⟩ (tX7_worthOf_x l dC dI _ oM iM_thrown rM_tape iM_taped iM_size iM_at iM_end iM_token iM_whole iM_nameSize iM_fault iM_place iM_trouble rM_letters iM_failed iM_hasCourt rM_r fM_r kM_r rM_fresh rM_told fM_told kM_told rM_read rM_st rM_undone rM_kept iM_undos iM_images rM_fresher iM_fresherSize iM_scale iM_night rM_heardRow rM_cutRow iM_breaths iM_cutMany iM_allBreaths rM_trial rM_words iM_fewestBreaths iM_orderMany iM_orderSum iM_leastOrder rM_often iM_setMany iM_someOf iM_allOf iM_allWeight iM_enoughWeight iM_worthSum iM_firstRest iM_leastDrawn rM_st fM_st kM_st p0 (by first | omega | decide) (by first | omega | decide) (by first | omega | decide) (by first | omega | decide) (by first | omega | decide) (by first | omega | decide) (by first | omega | decide) (by first | omega | decide) (by first | omega | decide) (by first | omega | decide) (by assumption) (by assumption) (by assumption) (by assumption) (by first | omega | decide | assumption | (have q0 := kc_0; have q1 := kc_1; omega) | (intro h; exact absurd h (by decide))) (by first | omega | decide | assumption | (have q0 := kc_0; have q1 := kc_1; omega) | (intro h; exact absurd h (by decide)))) (cwV 2 hts (wd_V wd_645 wd_646 wd_647 wd_5 (wd_c wd_648)) rfl rfl rfl (by decide +kernel) ⟨Nat.le_of_ble_eq_true rfl, Nat.le_of_ble_eq_true rfl⟩) ⟨Pw.fb, va_recv hK hP (ci := 7) (q0 := 0) rfl rfl, fun U hU hW => Pw.to (hP.sub [0, 1, 2, 3] rfl) (hD.sub [0, 1, 2, 3] (by decide) rfl) (hK.sub [0, 1, 2] rfl) hE hS hFc hU hW⟩ rfl rfl hl.1 rfl (lv_room (Nat.le_of_ble_eq_true rfl)) dX7_bestOf_55 ⟨Nat.le_of_ble_eq_true rfl, Nat.le_of_ble_eq_true rfl⟩) hS (fun q _ h => hFc q h) hFc (fun r u t H locs ht hvm hw hB hz1 hk1 hS => ?_)
          have hru9 := hw.2
          have hw := hw.1
          obtain ⟨hP, hD, hK⟩ := Bw.go (ws' := [(oc7 oM iM_thrown rM_tape iM_taped iM_size iM_at iM_end iM_token iM_whole iM_nameSize iM_fault iM_place iM_trouble rM_letters iM_failed iM_hasCourt rM_r rM_fresh rM_told rM_read rM_st rM_undone rM_kept iM_undos iM_images rM_fresher iM_fresherSize iM_scale iM_night rM_heardRow rM_cutRow iM_breaths iM_cutMany iM_allBreaths rM_trial rM_words iM_fewestBreaths iM_orderMany iM_orderSum iM_leastOrder rM_often iM_setMany iM_someOf iM_allOf iM_allWeight iM_enoughWeight iM_worthSum iM_firstRest iM_leastDrawn), (arI rM_r kM_r 287 fM_r), (arI rM_told kM_told 90 fM_told), (arI rM_st kM_st 90 fM_st)]) (tys' := [(kM_r, .int), (kM_told, .int), (kM_st, .int)]) hB rfl ht hvm hP hD hK [0, 1, 2, 3] [] rfl (by decide) (by decide) [] hk1 hFc rfl rfl rfl
          clear hz1 hk1 hvm ht hB
          obtain ⟨x_4728, rfl⟩ : ∃ z, z = r := ⟨_, rfl⟩
          have hG := hG.trans (lt_eq hru9.symm)
          have lx_4728 := hw.2
          refine lv_icmp_eq (tgt := 67) hx hb dX7_bestOf_58 (by decide) (fun c_4729 => ?_) (fun c_4729 => ?_)
          · skip
            have hG := hG.trans (if_pos c_4729)
            have gc_4729 := ti_eq c_4729 rfl rfl
            refine lv_aload_n hx hb dX7_bestOf_67 rfl (lv_at hl 1 rfl) ?_
            refine va_get (D := (dC, dI)) (ci := 7) (v := .ref rM_st) (C := RX7) (T := TX7) (N := 48) hx hb hts inX7 hown hK hP 0 rfl rfl 19 (by decide) (hts _ wd_159) (fun _ h9 => h9) rfl dX7_bestOf_68 ?_
            refine lv_iconst (v := 4) hx hb dX7_bestOf_71 (by decide) ?_
            refine lv_iload_n hx hb dX7_bestOf_72 rfl (lv_at hl 2 rfl) ?_
            refine lv_imul hx hb dX7_bestOf_73 ?_
            refine lv_topi (fun x_4730 ex_4730 => ?_)
            have hG := hG.trans (lt_eq ex_4730)
            have vx_4730 : x_4730.toInt = 4 * p0.toInt := by have q := ti_mul ex_4730 kc_4 rfl (by omega) (by omega); omega
            refine lv_iload_n hx hb dX7_bestOf_74 rfl (lv_at hl 0 rfl) ?_
            refine lv_iadd hx hb dX7_bestOf_75 ?_
            refine lv_topi (fun x_4731 ex_4731 => ?_)
            have hG := hG.trans (lt_eq ex_4731)
            have vx_4731 : x_4731.toInt = 4 * p0.toInt + z_4722.toInt := by have q := ti_add ex_4731 vx_4730 rfl (by omega) (by omega); omega
            refine va_iald hx hb hK hP 3 2 rfl rfl (ti_in vx_4731 (by omega) (by omega)) dX7_bestOf_76 ?_
            refine lv_topi (fun x_4732 ex_4732 => ?_)
            have hG := hG.trans (lt_eq ex_4732)
            have kx_4732 : (fM_st x_4731.toNatClampNeg).toInt = x_4732.toInt := by rw [ex_4732]
            have cx_4732 : (fM_st (4 * p0.toNatClampNeg + z_4722.toNatClampNeg)).toInt = x_4732.toInt := by rw [show 4 * p0.toNatClampNeg + z_4722.toNatClampNeg = x_4731.toNatClampNeg from by have q9 := ti_cl (x := x_4731) vx_4731 (by omega); have q_p0 := ti_cl (x := p0) rfl (by omega); have q_z_4722 := ti_cl (x := z_4722) rfl (by omega); omega]; exact kx_4732
            have wx_4732 := r_st.lt p0.toNatClampNeg (z_4722.toNatClampNeg) (by have q_1 := ti_cl (x := p0) rfl (by omega); have q_2 := ti_cl (x := z_4722) rfl (by omega); omega) (by have q_1 := ti_cl (x := p0) rfl (by omega); have q_2 := ti_cl (x := z_4722) rfl (by omega); omega)
            have wx_4732 : 0 ≤ x_4732.toInt ∧ x_4732.toInt < p0.toInt := by have q_1 := ti_cl (x := p0) rfl (by omega); have q_2 := ti_cl (x := z_4722) rfl (by omega); have q_3 := cx_4732; rw [show 4 * p0.toNatClampNeg + (z_4722.toNatClampNeg) = 4 * p0.toNatClampNeg + z_4722.toNatClampNeg from by omega] at wx_4732; omega
            exact W.iret hx hb hr (fun t ht hW => ⟨⟨_, 0, rfl, ⟨⟨trivial, (by first | omega | assumption)⟩, hG⟩, Bw.to (hP.sub [0, 1, 2, 3] rfl) (hD.sub [0, 1, 2, 3] (by decide) rfl) (hK.sub [0, 1, 2] rfl) ht hW⟩, hS.F ht⟩) hS.2.2 dX7_bestOf_77
          · skip
            have hG := hG.trans (if_neg c_4729)
            have gc_4729 := ti_ne c_4729 rfl rfl
            obtain ⟨x_4733, ex_4733⟩ : ∃ z : Int32, z = z_4722 + Int32.ofInt 1 := ⟨_, rfl⟩
            have hG := hG.trans (lt_eq ex_4733)
            have vx_4733 : x_4733.toInt = z_4722.toInt + 1 := by have q := ti_add (y := 1) ex_4733 rfl kc_1 (by omega) (by omega); omega
            refine lv_iinc (v := x_4733) (lv' := [(2, .int x_4733), (0, .ref oM), (1, .int p0)]) hx hb dX7_bestOf_61 hl (k := 0) rfl ex_4733.symm (by decide) rfl (fun ls hl => ?_)
            refine lv_goto (tgt := 31) hx hb dX7_bestOf_64 (by decide) ?_
            have ex9 : BestJ fM_r fM_told fM_st iM_scale p0.toNatClampNeg x_4733.toInt := best_go (n := z_4722.toNatClampNeg) hi1_n_4723 (by have q1 := ti_cl (x := z_4722) rfl (by omega); omega) (by have q := cx_4726; rw [show 4 * p0.toNatClampNeg + z_4722.toNatClampNeg = 4 * p0.toNatClampNeg + z_4722.toNatClampNeg from by omega]; exact q) lx_4727 lx_4728 (by omega) (by omega)
            exact ih_n_4723 x_4733 _ _ _  (by have q9 := best_lt ex9; omega) ex9 (by omega) hG (hP.sub [0, 1, 2, 3] rfl) (hD.sub [0, 1, 2, 3] (by decide) rfl) hS (lv_sub hl [0, 1, 2] rfl)
      have be9 := best_ex (ft := fM_told) (sc := iM_scale) r_R r_st r_wst (by omega) (k := p0.toNatClampNeg) (by omega) (by omega)
      have mm9 : 1 ≤ (fM_r (27 + p0.toNatClampNeg)).toInt := in_p0 (by omega)
      have bf9 : BestJ fM_r fM_told fM_st iM_scale p0.toNatClampNeg (0 : Int32).toInt := best_start (by have q := kc_0; omega) be9
      clear be9
      exact key_n_4723 ((((fM_r (27 + p0.toNatClampNeg)).toInt - (0 : Int32).toInt).toNat) + 1) 0 _ _ _  (by first | omega | decide | assumption | (have q0 := kc_0; have q1 := kc_1; omega)) (by first | omega | decide | assumption | (have q0 := kc_0; have q1 := kc_1; omega)) (by omega) hG hP hD hS hl
    · skip
      have hG := hG.trans (if_neg c_4721)
      have gc_4721 := ti_ne c_4721 rfl kc_2
      refine lv_bipush (v := (-2)) hx hb dX7_bestOf_26 (by decide) ?_
      exact W.iret hx hb hr (fun t ht hW => ⟨⟨_, 0, rfl, ⟨⟨trivial, (by have q := kc_m2; first | omega | assumption)⟩, hG⟩, Bw.to (hP.sub [0, 1, 2, 3] rfl) (hD.sub [0, 1, 2, 3] (by decide) rfl) (hK.sub [0, 1, 2] rfl) ht hW⟩, hS.F ht⟩) hS.2.2 dX7_bestOf_28
