set_option maxHeartbeats 4000000 in
set_option maxRecDepth 100000 in
theorem tX7_weightsOf_x (l : Launch) (dC : Nat → ClassId) (dI : Nat → Nat → Nat) (sz : Nat) (oM : Nat) (iM_thrown : Int32) (rM_tape : Nat) (iM_taped : Int32) (iM_size : Int32) (iM_at : Int32) (iM_end : Int32) (iM_token : Int32) (iM_whole : Int32) (iM_nameSize : Int32) (iM_fault : Int32) (iM_place : Int32) (iM_trouble : Int32) (rM_letters : Nat) (iM_failed : Int32) (iM_hasCourt : Int32) (rM_r : Nat) (fM_r : Nat → Int32) (kM_r : ClassId) (rM_fresh : Nat) (rM_told : Nat) (rM_read : Nat) (rM_st : Nat) (rM_undone : Nat) (rM_kept : Nat) (iM_undos : Int32) (iM_images : Int32) (rM_fresher : Nat) (iM_fresherSize : Int32) (iM_scale : Int32) (iM_night : Int32) (rM_heardRow : Nat) (rM_cutRow : Nat) (iM_breaths : Int32) (iM_cutMany : Int32) (iM_allBreaths : Int32) (rM_trial : Nat) (rM_words : Nat) (iM_fewestBreaths : Int32) (iM_orderMany : Int32) (iM_orderSum : Int32) (iM_leastOrder : Int32) (rM_often : Nat) (iM_setMany : Int32) (iM_someOf : Int32) (iM_allOf : Int32) (iM_allWeight : Int64) (iM_enoughWeight : Int64) (iM_worthSum : Int64) (iM_firstRest : Int32) (iM_leastDrawn : Int32) (p0 : Int32) (b_iM_taped : 0 ≤ iM_taped.toInt ∧ iM_taped.toInt ≤ 900) (b_iM_size : 0 ≤ iM_size.toInt ∧ iM_size.toInt ≤ 900) (b_iM_end : 0 ≤ iM_end.toInt ∧ iM_end.toInt ≤ 900) (b_iM_failed : 0 ≤ iM_failed.toInt ∧ iM_failed.toInt ≤ 1) (b_iM_hasCourt : 0 ≤ iM_hasCourt.toInt ∧ iM_hasCourt.toInt ≤ 1) (b_iM_undos : 0 ≤ iM_undos.toInt ∧ iM_undos.toInt ≤ 16) (b_iM_images : 0 ≤ iM_images.toInt ∧ iM_images.toInt ≤ 3) (b_iM_scale : 1 ≤ iM_scale.toInt ∧ iM_scale.toInt ≤ 1296) (b_iM_breaths : 0 ≤ iM_breaths.toInt ∧ iM_breaths.toInt ≤ 399) (b_iM_cutMany : 0 ≤ iM_cutMany.toInt ∧ iM_cutMany.toInt ≤ 399) (r_R : ROk fM_r) (r_C : iM_hasCourt.toInt ≤ 0 ∨ (1 ≤ (fM_r 1).toInt ∧ 0 ≤ (fM_r 6).toInt ∧ (fM_r 6).toInt < (fM_r 1).toInt)) (hk0 : 0 ≤ p0.toInt ∧ p0.toInt < (fM_r 1).toInt) (hk3 : (fM_r (9 + p0.toNatClampNeg)).toInt = 3) : Met l yX7_weightsOf (Cond.code yX7_weightsOf cX7_weightsOf 4 (some .int) :: wG) ({ frames := 0, cells := 0, slots := 0, locals := 0 }) (va_Pc [.ref oM, .int p0] (Pw dC dI sz [(oc7 oM iM_thrown rM_tape iM_taped iM_size iM_at iM_end iM_token iM_whole iM_nameSize iM_fault iM_place iM_trouble rM_letters iM_failed iM_hasCourt rM_r rM_fresh rM_told rM_read rM_st rM_undone rM_kept iM_undos iM_images rM_fresher iM_fresherSize iM_scale iM_night rM_heardRow rM_cutRow iM_breaths iM_cutMany iM_allBreaths rM_trial rM_words iM_fewestBreaths iM_orderMany iM_orderSum iM_leastOrder rM_often iM_setMany iM_someOf iM_allOf iM_allWeight iM_enoughWeight iM_worthSum iM_firstRest iM_leastDrawn), (arI rM_r kM_r 287 fM_r)] [(kM_r, .int)])) (va_Qi (fun (r : Int32) (_ : Nat) => (True ∧ ((1 ≤ r.toInt ∧ r.toInt ≤ 36) ∧ r = sum32 (fun i => fM_r (45 + 4 * p0.toNatClampNeg + i)) (fM_r (27 + p0.toNatClampNeg)).toInt.toNat)) ∧ PX7_weightsOf fM_r p0 = r) (fun (_ : Nat) (t : State) => Bw dC dI (va_A [(oc7 oM iM_thrown rM_tape iM_taped iM_size iM_at iM_end iM_token iM_whole iM_nameSize iM_fault iM_place iM_trouble rM_letters iM_failed iM_hasCourt rM_r rM_fresh rM_told rM_read rM_st rM_undone rM_kept iM_undos iM_images rM_fresher iM_fresherSize iM_scale iM_night rM_heardRow rM_cutRow iM_breaths iM_cutMany iM_allBreaths rM_trial rM_words iM_fewestBreaths iM_orderMany iM_orderSum iM_leastOrder rM_often iM_setMany iM_someOf iM_allOf iM_allWeight iM_enoughWeight iM_worthSum iM_firstRest iM_leastDrawn), (arI rM_r kM_r 287 fM_r)] sz) [(oc7 oM iM_thrown rM_tape iM_taped iM_size iM_at iM_end iM_token iM_whole iM_nameSize iM_fault iM_place iM_trouble rM_letters iM_failed iM_hasCourt rM_r rM_fresh rM_told rM_read rM_st rM_undone rM_kept iM_undos iM_images rM_fresher iM_fresherSize iM_scale iM_night rM_heardRow rM_cutRow iM_breaths iM_cutMany iM_allBreaths rM_trial rM_words iM_fewestBreaths iM_orderMany iM_orderSum iM_leastOrder rM_often iM_setMany iM_someOf iM_allOf iM_allWeight iM_enoughWeight iM_worthSum iM_firstRest iM_leastDrawn), (arI rM_r kM_r 287 fM_r)] [(kM_r, .int)] t) (va_A [(oc7 oM iM_thrown rM_tape iM_taped iM_size iM_at iM_end iM_token iM_whole iM_nameSize iM_fault iM_place iM_trouble rM_letters iM_failed iM_hasCourt rM_r rM_fresh rM_told rM_read rM_st rM_undone rM_kept iM_undos iM_images rM_fresher iM_fresherSize iM_scale iM_night rM_heardRow rM_cutRow iM_breaths iM_cutMany iM_allBreaths rM_trial rM_words iM_fewestBreaths iM_orderMany iM_orderSum iM_leastOrder rM_often iM_setMany iM_someOf iM_allOf iM_allWeight iM_enoughWeight iM_worthSum iM_firstRest iM_leastDrawn), (arI rM_r kM_r 287 fM_r)] sz)) 0 0 (va_A [(oc7 oM iM_thrown rM_tape iM_taped iM_size iM_at iM_end iM_token iM_whole iM_nameSize iM_fault iM_place iM_trouble rM_letters iM_failed iM_hasCourt rM_r rM_fresh rM_told rM_read rM_st rM_undone rM_kept iM_undos iM_images rM_fresher iM_fresherSize iM_scale iM_night rM_heardRow rM_cutRow iM_breaths iM_cutMany iM_allBreaths rM_trial rM_words iM_fewestBreaths iM_orderMany iM_orderSum iM_leastOrder rM_often iM_setMany iM_someOf iM_allOf iM_allWeight iM_enoughWeight iM_worthSum iM_firstRest iM_leastDrawn), (arI rM_r kM_r 287 fM_r)] sz) := by
  refine Met.ofW (cc := cX7_weightsOf) (maxL := 4) (ret := (some .int)) (by decide) rfl ?_
  intro p e s m args below meth c s₁ B hml hv
  obtain ⟨rfl, hsz, hP, hK, hD0, hE⟩ := hv
  have hx := B.exec
  have hb := B.bytes
  have hr := B.returns
  have hts : ∀ w ∈ wG, w.before ([.ref oM, .int p0] : List Value).toArray s = true := fun w h => atoms_spec (ws := Cond.code yX7_weightsOf cX7_weightsOf 4 (some .int) :: wG) B.pre w (List.mem_cons_of_mem _ h)
  have hown : s.vm.findClass RX7 = some m.cls := findClass_of_methodNamed B.named
  have hlocks := B.notSynchronized
  subst hsz
  have hD := hD0.self (sz := s.heap.size)
  generalize hAe : va_A [(oc7 oM iM_thrown rM_tape iM_taped iM_size iM_at iM_end iM_token iM_whole iM_nameSize iM_fault iM_place iM_trouble rM_letters iM_failed iM_hasCourt rM_r rM_fresh rM_told rM_read rM_st rM_undone rM_kept iM_undos iM_images rM_fresher iM_fresherSize iM_scale iM_night rM_heardRow rM_cutRow iM_breaths iM_cutMany iM_allBreaths rM_trial rM_words iM_fewestBreaths iM_orderMany iM_orderSum iM_leastOrder rM_often iM_setMany iM_someOf iM_allOf iM_allWeight iM_enoughWeight iM_worthSum iM_firstRest iM_leastDrawn), (arI rM_r kM_r 287 fM_r)] s.heap.size = A at hD hE ⊢
  have hA : ∀ q : Nat, s.heap.size ≤ q → A q := fun q h => by rw [← hAe]; exact Or.inr h
  have hS : va_S A s.heap s.heap [] := va_S.rf
  have hl := lv_entry ([.ref oM, .int p0]) (n := 4) (Nat.le_of_ble_eq_true rfl)
  rw [lg_entry_eq]
  generalize (lg_sl ([.ref oM, .int p0]) ++ List.replicate (4 - (lg_sl ([.ref oM, .int p0])).length) Slot.unset).toArray = ls at hl ⊢
  have hl : lv_has ls 4 [(0, .ref oM), (1, .int p0)] := hl
  have hG := PX7_weightsOf_eq fM_r p0
  have s_slips := r_R.slips
  have s_nodes := r_R.nodes
  have s_uns := r_R.uns
  have q_p0 := ti_cl (x := p0) rfl (by omega)
  have mn_p0 := r_R.many (27 + p0.toNatClampNeg) (by omega) (by omega)
  have kn_p0 := r_R.kind (9 + p0.toNatClampNeg) (by omega) (by omega)
  have in_p0 := r_R.inner p0.toNatClampNeg (by omega)
  have ix_p0 : 1 ≤ (fM_r (27 + p0.toNatClampNeg)).toInt := in_p0 (by omega)
  refine lv_iconst (v := 0) hx hb dX7_weightsOf_0 (by decide) ?_
  refine lv_istore_n (lv' := [(2, .int 0), (0, .ref oM), (1, .int p0)]) hx hb dX7_weightsOf_1 rfl hl (by decide) rfl (fun ls hl => ?_)
  refine lv_iconst (v := 0) hx hb dX7_weightsOf_2 (by decide) ?_
  refine lv_istore_n (lv' := [(3, .int 0), (2, .int 0), (0, .ref oM), (1, .int p0)]) hx hb dX7_weightsOf_3 rfl hl (by decide) rfl (fun ls hl => ?_)
  have hl := lv_sub hl (l' := [(3, .int 0), (2, .int 0), (0, .ref oM), (1, .int p0)]) [0, 1, 2, 3] rfl
  have key_n_4560 : ∀ (n_4560 : Nat) (z_4558 : Int32) (z_4559 : Int32) (H : Heap) (locs : List Loc) (ls : Array Slot), (0 ≤ z_4558.toInt ∧ z_4558.toInt ≤ 4) → (z_4558.toInt ≤ z_4559.toInt ∧ z_4559.toInt ≤ 9 * z_4558.toInt) → (z_4558.toInt ≤ (fM_r (27 + p0.toNatClampNeg)).toInt) → (z_4559 = sum32 (fun i => fM_r (45 + 4 * p0.toNatClampNeg + i)) z_4558.toNatClampNeg) → (4 - z_4558.toInt).toNat < n_4560 → (PX7_weightsOf fM_r p0 = HX7_weightsOf_0 fM_r p0 n_4560 z_4558 z_4559) → va_P (dC, dI) vwCl [(oc7 oM iM_thrown rM_tape iM_taped iM_size iM_at iM_end iM_token iM_whole iM_nameSize iM_fault iM_place iM_trouble rM_letters iM_failed iM_hasCourt rM_r rM_fresh rM_told rM_read rM_st rM_undone rM_kept iM_undos iM_images rM_fresher iM_fresherSize iM_scale iM_night rM_heardRow rM_cutRow iM_breaths iM_cutMany iM_allBreaths rM_trial rM_words iM_fewestBreaths iM_orderMany iM_orderSum iM_leastOrder rM_often iM_setMany iM_someOf iM_allOf iM_allWeight iM_enoughWeight iM_worthSum iM_firstRest iM_leastDrawn), (arI rM_r kM_r 287 fM_r)] H → va_D A [(oc7 oM iM_thrown rM_tape iM_taped iM_size iM_at iM_end iM_token iM_whole iM_nameSize iM_fault iM_place iM_trouble rM_letters iM_failed iM_hasCourt rM_r rM_fresh rM_told rM_read rM_st rM_undone rM_kept iM_undos iM_images rM_fresher iM_fresherSize iM_scale iM_night rM_heardRow rM_cutRow iM_breaths iM_cutMany iM_allBreaths rM_trial rM_words iM_fewestBreaths iM_orderMany iM_orderSum iM_leastOrder rM_often iM_setMany iM_someOf iM_allOf iM_allWeight iM_enoughWeight iM_worthSum iM_firstRest iM_leastDrawn), (arI rM_r kM_r 287 fM_r)] → va_S A s.heap H locs → lv_has ls 4 [(3, .int z_4558), (2, .int z_4559), (0, .ref oM), (1, .int p0)] → W p l e (headSpec (Cond.code yX7_weightsOf cX7_weightsOf 4 (some .int) :: wG) ({ frames := 0, cells := 0, slots := 0, locals := 0 })).room s m ([.ref oM, .int p0] : List Value).toArray below meth c H locs 0 0 (MQ below (va_Qi (fun (r : Int32) (_ : Nat) => (True ∧ ((1 ≤ r.toInt ∧ r.toInt ≤ 36) ∧ r = sum32 (fun i => fM_r (45 + 4 * p0.toNatClampNeg + i)) (fM_r (27 + p0.toNatClampNeg)).toInt.toNat)) ∧ PX7_weightsOf fM_r p0 = r) (fun (_ : Nat) (t : State) => Bw dC dI A [(oc7 oM iM_thrown rM_tape iM_taped iM_size iM_at iM_end iM_token iM_whole iM_nameSize iM_fault iM_place iM_trouble rM_letters iM_failed iM_hasCourt rM_r rM_fresh rM_told rM_read rM_st rM_undone rM_kept iM_undos iM_images rM_fresher iM_fresherSize iM_scale iM_night rM_heardRow rM_cutRow iM_breaths iM_cutMany iM_allBreaths rM_trial rM_words iM_fewestBreaths iM_orderMany iM_orderSum iM_leastOrder rM_often iM_setMany iM_someOf iM_allOf iM_allWeight iM_enoughWeight iM_worthSum iM_firstRest iM_leastDrawn), (arI rM_r kM_r 287 fM_r)] [(kM_r, .int)] t) A) ([.ref oM, .int p0] : List Value).toArray s 0 0 A) (F0 m 4 ls []) := by
    intro n_4560
    induction n_4560 with
    | zero => intro z_4558 z_4559 H locs ls hi0_n_4560 hi1_n_4560 hi2_n_4560 hi3_n_4560 hm; exact absurd hm (by omega)
    | succ n_4560 ih_n_4560 =>
      intro z_4558 z_4559 H locs ls hi0_n_4560 hi1_n_4560 hi2_n_4560 hi3_n_4560 hm hG hP hD hS hl
      have hG := hG.trans (HX7_weightsOf_0_eq _ _ _ _ _)
      refine lv_iload_n hx hb dX7_weightsOf_4 rfl (lv_at hl 0 rfl) ?_
      refine lv_aload_n hx hb dX7_weightsOf_5 rfl (lv_at hl 2 rfl) ?_
      refine va_get (D := (dC, dI)) (ci := 7) (v := .ref rM_r) (C := RX7) (T := TX7) (N := 48) hx hb hts inX7 hown hK hP 0 rfl rfl 15 (by decide) (hts _ wd_155) (fun _ h9 => h9) rfl dX7_weightsOf_6 ?_
      refine lv_bipush (v := 27) hx hb dX7_weightsOf_9 (by decide) ?_
      refine lv_iload_n hx hb dX7_weightsOf_11 rfl (lv_at hl 3 rfl) ?_
      refine lv_iadd hx hb dX7_weightsOf_12 ?_
      refine lv_topi (fun x_4561 ex_4561 => ?_)
      have hG := hG.trans (lt_eq ex_4561)
      have vx_4561 : x_4561.toInt = p0.toInt + 27 := by have q := ti_add ex_4561 kc_27 rfl (by omega) (by omega); omega
      refine va_iald hx hb hK hP 1 0 rfl rfl (ti_in vx_4561 (by omega) (by omega)) dX7_weightsOf_13 ?_
      refine lv_topi (fun x_4562 ex_4562 => ?_)
      have hG := hG.trans (lt_eq ex_4562)
      have kx_4562 : (fM_r x_4561.toNatClampNeg).toInt = x_4562.toInt := by rw [ex_4562]
      have cx_4562 : (fM_r (27 + p0.toNatClampNeg)).toInt = x_4562.toInt := by rw [show 27 + p0.toNatClampNeg = x_4561.toNatClampNeg from by have q9 := ti_cl (x := x_4561) vx_4561 (by omega); have q_p0 := ti_cl (x := p0) rfl (by omega); omega]; exact kx_4562
      have sx_4562 := r_R.many x_4561.toNatClampNeg (by have q9 := ti_cl (x := x_4561) vx_4561 (by omega); omega) (by have q9 := ti_cl (x := x_4561) vx_4561 (by omega); omega)
      refine lv_icmp_ge (tgt := 39) hx hb dX7_weightsOf_14 (by decide) (fun c_4563 => ?_) (fun c_4563 => ?_)
      · skip
        have hG := hG.trans (if_pos c_4563)
        have gc_4563 := ti_le c_4563 rfl rfl
        refine lv_iload_n hx hb dX7_weightsOf_39 rfl (lv_at hl 1 rfl) ?_
        exact W.iret hx hb hr (fun t ht hW => ⟨⟨_, 0, rfl, ⟨⟨trivial, ⟨by omega, by rw [show (fM_r (27 + p0.toNatClampNeg)).toInt.toNat = z_4558.toNatClampNeg from by have q1 := ti_cl (x := z_4558) rfl (by omega); omega]; exact hi3_n_4560⟩⟩, hG⟩, Bw.to (hP.sub [0, 1] rfl) (hD.sub [0, 1] (by decide) rfl) (hK.sub [0] rfl) ht hW⟩, hS.F ht⟩) hS.2.2 dX7_weightsOf_40
      · skip
        have hG := hG.trans (if_neg c_4563)
        have gc_4563 := ti_nle c_4563 rfl rfl
        refine lv_iload_n hx hb dX7_weightsOf_17 rfl (lv_at hl 1 rfl) ?_
        refine lv_aload_n hx hb dX7_weightsOf_18 rfl (lv_at hl 2 rfl) ?_
        refine va_get (D := (dC, dI)) (ci := 7) (v := .ref rM_r) (C := RX7) (T := TX7) (N := 48) hx hb hts inX7 hown hK hP 0 rfl rfl 15 (by decide) (hts _ wd_155) (fun _ h9 => h9) rfl dX7_weightsOf_19 ?_
        refine lv_bipush (v := 45) hx hb dX7_weightsOf_22 (by decide) ?_
        refine lv_iconst (v := 4) hx hb dX7_weightsOf_24 (by decide) ?_
        refine lv_iload_n hx hb dX7_weightsOf_25 rfl (lv_at hl 3 rfl) ?_
        refine lv_imul hx hb dX7_weightsOf_26 ?_
        refine lv_topi (fun x_4564 ex_4564 => ?_)
        have hG := hG.trans (lt_eq ex_4564)
        have vx_4564 : x_4564.toInt = 4 * p0.toInt := by have q := ti_mul ex_4564 kc_4 rfl (by omega) (by omega); omega
        refine lv_iadd hx hb dX7_weightsOf_27 ?_
        refine lv_topi (fun x_4565 ex_4565 => ?_)
        have hG := hG.trans (lt_eq ex_4565)
        have vx_4565 : x_4565.toInt = 4 * p0.toInt + 45 := by have q := ti_add ex_4565 kc_45 vx_4564 (by omega) (by omega); omega
        refine lv_iload_n hx hb dX7_weightsOf_28 rfl (lv_at hl 0 rfl) ?_
        refine lv_iadd hx hb dX7_weightsOf_29 ?_
        refine lv_topi (fun x_4566 ex_4566 => ?_)
        have hG := hG.trans (lt_eq ex_4566)
        have vx_4566 : x_4566.toInt = 4 * p0.toInt + z_4558.toInt + 45 := by have q := ti_add ex_4566 vx_4565 rfl (by omega) (by omega); omega
        refine va_iald hx hb hK hP 1 0 rfl rfl (ti_in vx_4566 (by omega) (by omega)) dX7_weightsOf_30 ?_
        refine lv_topi (fun x_4567 ex_4567 => ?_)
        have hG := hG.trans (lt_eq ex_4567)
        have kx_4567 : (fM_r x_4566.toNatClampNeg).toInt = x_4567.toInt := by rw [ex_4567]
        have cx_4567 : (fM_r (45 + 4 * p0.toNatClampNeg + z_4558.toNatClampNeg)).toInt = x_4567.toInt := by rw [show 45 + 4 * p0.toNatClampNeg + z_4558.toNatClampNeg = x_4566.toNatClampNeg from by have q9 := ti_cl (x := x_4566) vx_4566 (by omega); have q_p0 := ti_cl (x := p0) rfl (by omega); have q_z_4558 := ti_cl (x := z_4558) rfl (by omega); omega]; exact kx_4567
        have sx_4567 := r_R.wts x_4566.toNatClampNeg (by have q9 := ti_cl (x := x_4566) vx_4566 (by omega); omega) (by have q9 := ti_cl (x := x_4566) vx_4566 (by omega); omega)
        have xx_4567 := r_R.chance p0.toNatClampNeg z_4558.toNatClampNeg (by have q_1 := ti_cl (x := p0) rfl (by omega); have q_2 := ti_cl (x := z_4558) rfl (by omega); omega) (by omega) (by have q_1 := ti_cl (x := p0) rfl (by omega); have q_2 := ti_cl (x := z_4558) rfl (by omega); omega)
        have xx_4567 : 1 ≤ x_4567.toInt := by have q_3 := cx_4567; rw [show 45 + 4 * p0.toNatClampNeg + z_4558.toNatClampNeg = 45 + 4 * p0.toNatClampNeg + z_4558.toNatClampNeg from by omega] at xx_4567; omega
        refine lv_iadd hx hb dX7_weightsOf_31 ?_
        refine lv_topi (fun x_4568 ex_4568 => ?_)
        have hG := hG.trans (lt_eq ex_4568)
        have vx_4568 : x_4568.toInt = x_4567.toInt + z_4559.toInt := by have q := ti_add ex_4568 rfl rfl (by omega) (by omega); omega
        refine lv_istore_n (lv' := [(2, .int x_4568), (3, .int z_4558), (0, .ref oM), (1, .int p0)]) hx hb dX7_weightsOf_32 rfl hl (by decide) rfl (fun ls hl => ?_)
        obtain ⟨x_4569, ex_4569⟩ : ∃ z : Int32, z = z_4558 + Int32.ofInt 1 := ⟨_, rfl⟩
        have hG := hG.trans (lt_eq ex_4569)
        have vx_4569 : x_4569.toInt = z_4558.toInt + 1 := by have q := ti_add (y := 1) ex_4569 rfl kc_1 (by omega) (by omega); omega
        refine lv_iinc (v := x_4569) (lv' := [(3, .int x_4569), (2, .int x_4568), (0, .ref oM), (1, .int p0)]) hx hb dX7_weightsOf_33 hl (k := 1) rfl ex_4569.symm (by decide) rfl (fun ls hl => ?_)
        refine lv_goto (tgt := 4) hx hb dX7_weightsOf_36 (by decide) ?_
        exact ih_n_4560 x_4569 x_4568 _ _ _  (by first | omega | decide | assumption) (by first | omega | decide | assumption) (by first | omega | decide | assumption) (sum_step (z := x_4567) hi3_n_4560 ex_4568 (by have q := cx_4567; rw [show 45 + 4 * p0.toNatClampNeg + z_4558.toNatClampNeg = 45 + 4 * p0.toNatClampNeg + z_4558.toNatClampNeg from by omega]; exact q) (by have q1 := ti_cl (x := x_4569) vx_4569 (by omega); have q2 := ti_cl (x := z_4558) rfl (by omega); omega)) (by omega) hG (hP.sub [0, 1] rfl) (hD.sub [0, 1] (by decide) rfl) hS (lv_sub hl [0, 1, 2, 3] rfl)
  exact key_n_4560 (((4 - (0 : Int32).toInt).toNat) + 1) 0 0 _ _ _  (by first | omega | decide | assumption | (have q0 := kc_0; have q1 := kc_1; omega) | exact rfl) (by first | omega | decide | assumption | (have q0 := kc_0; have q1 := kc_1; omega) | exact rfl) (by first | omega | decide | assumption | (have q0 := kc_0; have q1 := kc_1; omega) | exact rfl) (by first | omega | decide | assumption | (have q0 := kc_0; have q1 := kc_1; omega) | exact rfl) (by omega) hG hP hD hS hl
set_option maxHeartbeats 4000000 in
set_option maxRecDepth 100000 in
theorem tX7_weightOf_x (l : Launch) (dC : Nat → ClassId) (dI : Nat → Nat → Nat) (sz : Nat) (oM : Nat) (iM_thrown : Int32) (rM_tape : Nat) (iM_taped : Int32) (iM_size : Int32) (iM_at : Int32) (iM_end : Int32) (iM_token : Int32) (iM_whole : Int32) (iM_nameSize : Int32) (iM_fault : Int32) (iM_place : Int32) (iM_trouble : Int32) (rM_letters : Nat) (iM_failed : Int32) (iM_hasCourt : Int32) (rM_r : Nat) (fM_r : Nat → Int32) (kM_r : ClassId) (rM_fresh : Nat) (rM_told : Nat) (fM_told : Nat → Int32) (kM_told : ClassId) (rM_read : Nat) (rM_st : Nat) (rM_undone : Nat) (rM_kept : Nat) (iM_undos : Int32) (iM_images : Int32) (rM_fresher : Nat) (iM_fresherSize : Int32) (iM_scale : Int32) (iM_night : Int32) (rM_heardRow : Nat) (rM_cutRow : Nat) (iM_breaths : Int32) (iM_cutMany : Int32) (iM_allBreaths : Int32) (rM_trial : Nat) (rM_words : Nat) (iM_fewestBreaths : Int32) (iM_orderMany : Int32) (iM_orderSum : Int32) (iM_leastOrder : Int32) (rM_often : Nat) (iM_setMany : Int32) (iM_someOf : Int32) (iM_allOf : Int32) (iM_allWeight : Int64) (iM_enoughWeight : Int64) (iM_worthSum : Int64) (iM_firstRest : Int32) (iM_leastDrawn : Int32) (p0 : Int32) (p1 : Int32) (b_iM_taped : 0 ≤ iM_taped.toInt ∧ iM_taped.toInt ≤ 900) (b_iM_size : 0 ≤ iM_size.toInt ∧ iM_size.toInt ≤ 900) (b_iM_end : 0 ≤ iM_end.toInt ∧ iM_end.toInt ≤ 900) (b_iM_failed : 0 ≤ iM_failed.toInt ∧ iM_failed.toInt ≤ 1) (b_iM_hasCourt : 0 ≤ iM_hasCourt.toInt ∧ iM_hasCourt.toInt ≤ 1) (b_iM_undos : 0 ≤ iM_undos.toInt ∧ iM_undos.toInt ≤ 16) (b_iM_images : 0 ≤ iM_images.toInt ∧ iM_images.toInt ≤ 3) (b_iM_scale : 1 ≤ iM_scale.toInt ∧ iM_scale.toInt ≤ 1296) (b_iM_breaths : 0 ≤ iM_breaths.toInt ∧ iM_breaths.toInt ≤ 399) (b_iM_cutMany : 0 ≤ iM_cutMany.toInt ∧ iM_cutMany.toInt ≤ 399) (r_R : ROk fM_r) (r_C : iM_hasCourt.toInt ≤ 0 ∨ (1 ≤ (fM_r 1).toInt ∧ 0 ≤ (fM_r 6).toInt ∧ (fM_r 6).toInt < (fM_r 1).toInt)) (r_told : RowOk fM_r fM_told) (hk0 : 0 ≤ p0.toInt ∧ p0.toInt < (fM_r 1).toInt) : Met l yX7_weightOf (Cond.code yX7_weightOf cX7_weightOf 4 (some .int) :: wG) ({ frames := 0, cells := 0, slots := 0, locals := 0 }) (va_Pc [.ref oM, .int p0, .int p1] (Pw dC dI sz [(oc7 oM iM_thrown rM_tape iM_taped iM_size iM_at iM_end iM_token iM_whole iM_nameSize iM_fault iM_place iM_trouble rM_letters iM_failed iM_hasCourt rM_r rM_fresh rM_told rM_read rM_st rM_undone rM_kept iM_undos iM_images rM_fresher iM_fresherSize iM_scale iM_night rM_heardRow rM_cutRow iM_breaths iM_cutMany iM_allBreaths rM_trial rM_words iM_fewestBreaths iM_orderMany iM_orderSum iM_leastOrder rM_often iM_setMany iM_someOf iM_allOf iM_allWeight iM_enoughWeight iM_worthSum iM_firstRest iM_leastDrawn), (arI rM_r kM_r 287 fM_r), (arI rM_told kM_told 90 fM_told)] [(kM_r, .int), (kM_told, .int)])) (va_Qi (fun (r : Int32) (_ : Nat) => (True ∧ ((0 ≤ r.toInt ∧ r.toInt ≤ 9) ∧ r = wOf fM_r fM_told p0.toNatClampNeg p1 (fM_r (27 + p0.toNatClampNeg)).toInt.toNat 0)) ∧ PX7_weightOf fM_r fM_told p0 p1 = r) (fun (_ : Nat) (t : State) => Bw dC dI (va_A [(oc7 oM iM_thrown rM_tape iM_taped iM_size iM_at iM_end iM_token iM_whole iM_nameSize iM_fault iM_place iM_trouble rM_letters iM_failed iM_hasCourt rM_r rM_fresh rM_told rM_read rM_st rM_undone rM_kept iM_undos iM_images rM_fresher iM_fresherSize iM_scale iM_night rM_heardRow rM_cutRow iM_breaths iM_cutMany iM_allBreaths rM_trial rM_words iM_fewestBreaths iM_orderMany iM_orderSum iM_leastOrder rM_often iM_setMany iM_someOf iM_allOf iM_allWeight iM_enoughWeight iM_worthSum iM_firstRest iM_leastDrawn), (arI rM_r kM_r 287 fM_r), (arI rM_told kM_told 90 fM_told)] sz) [(oc7 oM iM_thrown rM_tape iM_taped iM_size iM_at iM_end iM_token iM_whole iM_nameSize iM_fault iM_place iM_trouble rM_letters iM_failed iM_hasCourt rM_r rM_fresh rM_told rM_read rM_st rM_undone rM_kept iM_undos iM_images rM_fresher iM_fresherSize iM_scale iM_night rM_heardRow rM_cutRow iM_breaths iM_cutMany iM_allBreaths rM_trial rM_words iM_fewestBreaths iM_orderMany iM_orderSum iM_leastOrder rM_often iM_setMany iM_someOf iM_allOf iM_allWeight iM_enoughWeight iM_worthSum iM_firstRest iM_leastDrawn), (arI rM_r kM_r 287 fM_r), (arI rM_told kM_told 90 fM_told)] [(kM_r, .int), (kM_told, .int)] t) (va_A [(oc7 oM iM_thrown rM_tape iM_taped iM_size iM_at iM_end iM_token iM_whole iM_nameSize iM_fault iM_place iM_trouble rM_letters iM_failed iM_hasCourt rM_r rM_fresh rM_told rM_read rM_st rM_undone rM_kept iM_undos iM_images rM_fresher iM_fresherSize iM_scale iM_night rM_heardRow rM_cutRow iM_breaths iM_cutMany iM_allBreaths rM_trial rM_words iM_fewestBreaths iM_orderMany iM_orderSum iM_leastOrder rM_often iM_setMany iM_someOf iM_allOf iM_allWeight iM_enoughWeight iM_worthSum iM_firstRest iM_leastDrawn), (arI rM_r kM_r 287 fM_r), (arI rM_told kM_told 90 fM_told)] sz)) 0 0 (va_A [(oc7 oM iM_thrown rM_tape iM_taped iM_size iM_at iM_end iM_token iM_whole iM_nameSize iM_fault iM_place iM_trouble rM_letters iM_failed iM_hasCourt rM_r rM_fresh rM_told rM_read rM_st rM_undone rM_kept iM_undos iM_images rM_fresher iM_fresherSize iM_scale iM_night rM_heardRow rM_cutRow iM_breaths iM_cutMany iM_allBreaths rM_trial rM_words iM_fewestBreaths iM_orderMany iM_orderSum iM_leastOrder rM_often iM_setMany iM_someOf iM_allOf iM_allWeight iM_enoughWeight iM_worthSum iM_firstRest iM_leastDrawn), (arI rM_r kM_r 287 fM_r), (arI rM_told kM_told 90 fM_told)] sz) := by
  refine Met.ofW (cc := cX7_weightOf) (maxL := 4) (ret := (some .int)) (by decide) rfl ?_
  intro p e s m args below meth c s₁ B hml hv
  obtain ⟨rfl, hsz, hP, hK, hD0, hE⟩ := hv
  have hx := B.exec
  have hb := B.bytes
  have hr := B.returns
  have hts : ∀ w ∈ wG, w.before ([.ref oM, .int p0, .int p1] : List Value).toArray s = true := fun w h => atoms_spec (ws := Cond.code yX7_weightOf cX7_weightOf 4 (some .int) :: wG) B.pre w (List.mem_cons_of_mem _ h)
  have hown : s.vm.findClass RX7 = some m.cls := findClass_of_methodNamed B.named
  have hlocks := B.notSynchronized
  subst hsz
  have hD := hD0.self (sz := s.heap.size)
  generalize hAe : va_A [(oc7 oM iM_thrown rM_tape iM_taped iM_size iM_at iM_end iM_token iM_whole iM_nameSize iM_fault iM_place iM_trouble rM_letters iM_failed iM_hasCourt rM_r rM_fresh rM_told rM_read rM_st rM_undone rM_kept iM_undos iM_images rM_fresher iM_fresherSize iM_scale iM_night rM_heardRow rM_cutRow iM_breaths iM_cutMany iM_allBreaths rM_trial rM_words iM_fewestBreaths iM_orderMany iM_orderSum iM_leastOrder rM_often iM_setMany iM_someOf iM_allOf iM_allWeight iM_enoughWeight iM_worthSum iM_firstRest iM_leastDrawn), (arI rM_r kM_r 287 fM_r), (arI rM_told kM_told 90 fM_told)] s.heap.size = A at hD hE ⊢
  have hA : ∀ q : Nat, s.heap.size ≤ q → A q := fun q h => by rw [← hAe]; exact Or.inr h
  have hS : va_S A s.heap s.heap [] := va_S.rf
  have hl := lv_entry ([.ref oM, .int p0, .int p1]) (n := 4) (Nat.le_of_ble_eq_true rfl)
  rw [lg_entry_eq]
  generalize (lg_sl ([.ref oM, .int p0, .int p1]) ++ List.replicate (4 - (lg_sl ([.ref oM, .int p0, .int p1])).length) Slot.unset).toArray = ls at hl ⊢
  have hl : lv_has ls 4 [(0, .ref oM), (1, .int p0), (2, .int p1)] := hl
  have hG := PX7_weightOf_eq fM_r fM_told p0 p1
  have rg_p0 := fb_rng p0
  have rg_p1 := fb_rng p1
  have s_slips := r_R.slips
  have s_nodes := r_R.nodes
  have s_uns := r_R.uns
  have q_p0 := ti_cl (x := p0) rfl (by omega)
  have mn_p0 := r_R.many (27 + p0.toNatClampNeg) (by omega) (by omega)
  have kn_p0 := r_R.kind (9 + p0.toNatClampNeg) (by omega) (by omega)
  have in_p0 := r_R.inner p0.toNatClampNeg (by omega)
  refine lv_iconst (v := 0) hx hb dX7_weightOf_0 (by decide) ?_
  refine lv_istore_n (lv' := [(3, .int 0), (0, .ref oM), (1, .int p0), (2, .int p1)]) hx hb dX7_weightOf_1 rfl hl (by decide) rfl (fun ls hl => ?_)
  have hl := lv_sub hl (l' := [(3, .int 0), (0, .ref oM), (1, .int p0), (2, .int p1)]) [0, 1, 2, 3] rfl
  have key_n_4585 : ∀ (n_4585 : Nat) (z_4584 : Int32) (H : Heap) (locs : List Loc) (ls : Array Slot), (0 ≤ z_4584.toInt ∧ z_4584.toInt ≤ 4) → (wOf fM_r fM_told p0.toNatClampNeg p1 (fM_r (27 + p0.toNatClampNeg)).toInt.toNat 0 = wOf fM_r fM_told p0.toNatClampNeg p1 ((fM_r (27 + p0.toNatClampNeg)).toInt.toNat - z_4584.toNatClampNeg) z_4584.toNatClampNeg) → (2147483647 - z_4584.toInt).toNat < n_4585 → (PX7_weightOf fM_r fM_told p0 p1 = HX7_weightOf_0 fM_r fM_told p0 p1 n_4585 z_4584) → va_P (dC, dI) vwCl [(oc7 oM iM_thrown rM_tape iM_taped iM_size iM_at iM_end iM_token iM_whole iM_nameSize iM_fault iM_place iM_trouble rM_letters iM_failed iM_hasCourt rM_r rM_fresh rM_told rM_read rM_st rM_undone rM_kept iM_undos iM_images rM_fresher iM_fresherSize iM_scale iM_night rM_heardRow rM_cutRow iM_breaths iM_cutMany iM_allBreaths rM_trial rM_words iM_fewestBreaths iM_orderMany iM_orderSum iM_leastOrder rM_often iM_setMany iM_someOf iM_allOf iM_allWeight iM_enoughWeight iM_worthSum iM_firstRest iM_leastDrawn), (arI rM_r kM_r 287 fM_r), (arI rM_told kM_told 90 fM_told)] H → va_D A [(oc7 oM iM_thrown rM_tape iM_taped iM_size iM_at iM_end iM_token iM_whole iM_nameSize iM_fault iM_place iM_trouble rM_letters iM_failed iM_hasCourt rM_r rM_fresh rM_told rM_read rM_st rM_undone rM_kept iM_undos iM_images rM_fresher iM_fresherSize iM_scale iM_night rM_heardRow rM_cutRow iM_breaths iM_cutMany iM_allBreaths rM_trial rM_words iM_fewestBreaths iM_orderMany iM_orderSum iM_leastOrder rM_often iM_setMany iM_someOf iM_allOf iM_allWeight iM_enoughWeight iM_worthSum iM_firstRest iM_leastDrawn), (arI rM_r kM_r 287 fM_r), (arI rM_told kM_told 90 fM_told)] → va_S A s.heap H locs → lv_has ls 4 [(3, .int z_4584), (0, .ref oM), (1, .int p0), (2, .int p1)] → W p l e (headSpec (Cond.code yX7_weightOf cX7_weightOf 4 (some .int) :: wG) ({ frames := 0, cells := 0, slots := 0, locals := 0 })).room s m ([.ref oM, .int p0, .int p1] : List Value).toArray below meth c H locs 0 0 (MQ below (va_Qi (fun (r : Int32) (_ : Nat) => (True ∧ ((0 ≤ r.toInt ∧ r.toInt ≤ 9) ∧ r = wOf fM_r fM_told p0.toNatClampNeg p1 (fM_r (27 + p0.toNatClampNeg)).toInt.toNat 0)) ∧ PX7_weightOf fM_r fM_told p0 p1 = r) (fun (_ : Nat) (t : State) => Bw dC dI A [(oc7 oM iM_thrown rM_tape iM_taped iM_size iM_at iM_end iM_token iM_whole iM_nameSize iM_fault iM_place iM_trouble rM_letters iM_failed iM_hasCourt rM_r rM_fresh rM_told rM_read rM_st rM_undone rM_kept iM_undos iM_images rM_fresher iM_fresherSize iM_scale iM_night rM_heardRow rM_cutRow iM_breaths iM_cutMany iM_allBreaths rM_trial rM_words iM_fewestBreaths iM_orderMany iM_orderSum iM_leastOrder rM_often iM_setMany iM_someOf iM_allOf iM_allWeight iM_enoughWeight iM_worthSum iM_firstRest iM_leastDrawn), (arI rM_r kM_r 287 fM_r), (arI rM_told kM_told 90 fM_told)] [(kM_r, .int), (kM_told, .int)] t) A) ([.ref oM, .int p0, .int p1] : List Value).toArray s 0 0 A) (F0 m 2 ls []) := by
    intro n_4585
    induction n_4585 with
    | zero => intro z_4584 H locs ls hi0_n_4585 hi1_n_4585 hm; exact absurd hm (by omega)
    | succ n_4585 ih_n_4585 =>
      intro z_4584 H locs ls hi0_n_4585 hi1_n_4585 hm hG hP hD hS hl
      have hG := hG.trans (HX7_weightOf_0_eq _ _ _ _ _ _)
      have rg_z_4584 := fb_rng z_4584
      refine lv_iload_n hx hb dX7_weightOf_2 rfl (lv_at hl 0 rfl) ?_
      refine lv_aload_n hx hb dX7_weightOf_3 rfl (lv_at hl 1 rfl) ?_
      refine va_get (D := (dC, dI)) (ci := 7) (v := .ref rM_r) (C := RX7) (T := TX7) (N := 48) hx hb hts inX7 hown hK hP 0 rfl rfl 15 (by decide) (hts _ wd_155) (fun _ h9 => h9) rfl dX7_weightOf_4 ?_
      refine lv_bipush (v := 27) hx hb dX7_weightOf_7 (by decide) ?_
      refine lv_iload_n hx hb dX7_weightOf_9 rfl (lv_at hl 2 rfl) ?_
      refine lv_iadd hx hb dX7_weightOf_10 ?_
      refine lv_topi (fun x_4586 ex_4586 => ?_)
      have hG := hG.trans (lt_eq ex_4586)
      have vx_4586 : x_4586.toInt = p0.toInt + 27 := by have q := ti_add ex_4586 kc_27 rfl (by omega) (by omega); omega
      refine va_iald hx hb hK hP 1 0 rfl rfl (ti_in vx_4586 (by omega) (by omega)) dX7_weightOf_11 ?_
      refine lv_topi (fun x_4587 ex_4587 => ?_)
      have hG := hG.trans (lt_eq ex_4587)
      have rg_x_4587 := fb_rng x_4587
      have kx_4587 : (fM_r x_4586.toNatClampNeg).toInt = x_4587.toInt := by rw [ex_4587]
      have cx_4587 : (fM_r (27 + p0.toNatClampNeg)).toInt = x_4587.toInt := by rw [show 27 + p0.toNatClampNeg = x_4586.toNatClampNeg from by have q9 := ti_cl (x := x_4586) vx_4586 (by omega); have q_p0 := ti_cl (x := p0) rfl (by omega); omega]; exact kx_4587
      have sx_4587 := r_R.many x_4586.toNatClampNeg (by have q9 := ti_cl (x := x_4586) vx_4586 (by omega); omega) (by have q9 := ti_cl (x := x_4586) vx_4586 (by omega); omega)
      refine lv_icmp_ge (tgt := 49) hx hb dX7_weightOf_12 (by decide) (fun c_4588 => ?_) (fun c_4588 => ?_)
      · skip
        have hG := hG.trans (if_pos c_4588)
        have gc_4588 := ti_le c_4588 rfl rfl
        refine lv_iconst (v := 0) hx hb dX7_weightOf_49 (by decide) ?_
        exact W.iret hx hb hr (fun t ht hW => ⟨⟨_, 0, rfl, ⟨⟨trivial, ⟨by decide, wOf_out hi1_n_4585 (by have q2 := ti_cl (x := z_4584) rfl (by omega); omega)⟩⟩, hG⟩, Bw.to (hP.sub [0, 1, 2] rfl) (hD.sub [0, 1, 2] (by decide) rfl) (hK.sub [0, 1] rfl) ht hW⟩, hS.F ht⟩) hS.2.2 dX7_weightOf_50
      · skip
        have hG := hG.trans (if_neg c_4588)
        have gc_4588 := ti_nle c_4588 rfl rfl
        refine lv_aload_n hx hb dX7_weightOf_15 rfl (lv_at hl 1 rfl) ?_
        refine va_get (D := (dC, dI)) (ci := 7) (v := .ref rM_told) (C := RX7) (T := TX7) (N := 48) hx hb hts inX7 hown hK hP 0 rfl rfl 17 (by decide) (hts _ wd_157) (fun _ h9 => h9) rfl dX7_weightOf_16 ?_
        refine lv_iconst (v := 4) hx hb dX7_weightOf_19 (by decide) ?_
        refine lv_iload_n hx hb dX7_weightOf_20 rfl (lv_at hl 2 rfl) ?_
        refine lv_imul hx hb dX7_weightOf_21 ?_
        refine lv_topi (fun x_4589 ex_4589 => ?_)
        have hG := hG.trans (lt_eq ex_4589)
        have vx_4589 : x_4589.toInt = 4 * p0.toInt := by have q := ti_mul ex_4589 kc_4 rfl (by omega) (by omega); omega
        refine lv_iload_n hx hb dX7_weightOf_22 rfl (lv_at hl 0 rfl) ?_
        refine lv_iadd hx hb dX7_weightOf_23 ?_
        refine lv_topi (fun x_4590 ex_4590 => ?_)
        have hG := hG.trans (lt_eq ex_4590)
        have vx_4590 : x_4590.toInt = 4 * p0.toInt + z_4584.toInt := by have q := ti_add ex_4590 vx_4589 rfl (by omega) (by omega); omega
        refine va_iald hx hb hK hP 2 1 rfl rfl (ti_in vx_4590 (by omega) (by omega)) dX7_weightOf_24 ?_
        refine lv_topi (fun x_4591 ex_4591 => ?_)
        have hG := hG.trans (lt_eq ex_4591)
        have rg_x_4591 := fb_rng x_4591
        have kx_4591 : (fM_told x_4590.toNatClampNeg).toInt = x_4591.toInt := by rw [ex_4591]
        have cx_4591 : (fM_told (4 * p0.toNatClampNeg + z_4584.toNatClampNeg)).toInt = x_4591.toInt := by rw [show 4 * p0.toNatClampNeg + z_4584.toNatClampNeg = x_4590.toNatClampNeg from by have q9 := ti_cl (x := x_4590) vx_4590 (by omega); have q_p0 := ti_cl (x := p0) rfl (by omega); have q_z_4584 := ti_cl (x := z_4584) rfl (by omega); omega]; exact kx_4591
        have wx_4591 := r_told.lt p0.toNatClampNeg (z_4584.toNatClampNeg) (by have q_1 := ti_cl (x := p0) rfl (by omega); have q_2 := ti_cl (x := z_4584) rfl (by omega); omega) (by have q_1 := ti_cl (x := p0) rfl (by omega); have q_2 := ti_cl (x := z_4584) rfl (by omega); omega)
        have wx_4591 : 0 ≤ x_4591.toInt ∧ x_4591.toInt < p0.toInt := by have q_1 := ti_cl (x := p0) rfl (by omega); have q_2 := ti_cl (x := z_4584) rfl (by omega); have q_3 := cx_4591; rw [show 4 * p0.toNatClampNeg + (z_4584.toNatClampNeg) = 4 * p0.toNatClampNeg + z_4584.toNatClampNeg from by omega] at wx_4591; omega
        refine lv_iload_n hx hb dX7_weightOf_25 rfl (lv_at hl 3 rfl) ?_
        refine lv_icmp_ne (tgt := 43) hx hb dX7_weightOf_26 (by decide) (fun c_4592 => ?_) (fun c_4592 => ?_)
        · skip
          have hG := hG.trans (if_neg c_4592)
          have gc_4592 := ti_ne c_4592 rfl rfl
          obtain ⟨x_4593, ex_4593⟩ : ∃ z : Int32, z = z_4584 + Int32.ofInt 1 := ⟨_, rfl⟩
          have hG := hG.trans (lt_eq ex_4593)
          have vx_4593 : x_4593.toInt = z_4584.toInt + 1 := by have q := ti_add (y := 1) ex_4593 rfl kc_1 (by omega) (by omega); omega
          refine lv_iinc (v := x_4593) (lv' := [(3, .int x_4593), (0, .ref oM), (1, .int p0), (2, .int p1)]) hx hb dX7_weightOf_43 hl (k := 0) rfl ex_4593.symm (by decide) rfl (fun ls hl => ?_)
          refine lv_goto (tgt := 2) hx hb dX7_weightOf_46 (by decide) ?_
          exact ih_n_4585 x_4593 _ _ _  (by first | omega | decide | assumption) (wOf_next (z := x_4591) hi1_n_4585 (by have q := cx_4591; rw [show 4 * p0.toNatClampNeg + z_4584.toNatClampNeg = 4 * p0.toNatClampNeg + z_4584.toNatClampNeg from by omega]; exact q) (by omega) (by have q2 := ti_cl (x := z_4584) rfl (by omega); omega) (by have q1 := ti_cl (x := x_4593) vx_4593 (by omega); have q2 := ti_cl (x := z_4584) rfl (by omega); omega)) (by omega) hG (hP.sub [0, 1, 2] rfl) (hD.sub [0, 1, 2] (by decide) rfl) hS (lv_sub hl [0, 1, 2, 3] rfl)
        · skip
          have hG := hG.trans (if_pos c_4592)
          have gc_4592 := ti_eq c_4592 rfl rfl
          refine lv_aload_n hx hb dX7_weightOf_29 rfl (lv_at hl 1 rfl) ?_
          refine va_get (D := (dC, dI)) (ci := 7) (v := .ref rM_r) (C := RX7) (T := TX7) (N := 48) hx hb hts inX7 hown hK hP 0 rfl rfl 15 (by decide) (hts _ wd_155) (fun _ h9 => h9) rfl dX7_weightOf_30 ?_
          refine lv_bipush (v := 45) hx hb dX7_weightOf_33 (by decide) ?_
          refine lv_iconst (v := 4) hx hb dX7_weightOf_35 (by decide) ?_
          refine lv_iload_n hx hb dX7_weightOf_36 rfl (lv_at hl 2 rfl) ?_
          refine lv_imul hx hb dX7_weightOf_37 ?_
          refine lv_topi (fun x_4594 ex_4594 => ?_)
          have hG := hG.trans (lt_eq ex_4594)
          have vx_4594 : x_4594.toInt = 4 * p0.toInt := by have q := ti_mul ex_4594 kc_4 rfl (by omega) (by omega); omega
          refine lv_iadd hx hb dX7_weightOf_38 ?_
          refine lv_topi (fun x_4595 ex_4595 => ?_)
          have hG := hG.trans (lt_eq ex_4595)
          have vx_4595 : x_4595.toInt = 4 * p0.toInt + 45 := by have q := ti_add ex_4595 kc_45 vx_4594 (by omega) (by omega); omega
          refine lv_iload_n hx hb dX7_weightOf_39 rfl (lv_at hl 0 rfl) ?_
          refine lv_iadd hx hb dX7_weightOf_40 ?_
          refine lv_topi (fun x_4596 ex_4596 => ?_)
          have hG := hG.trans (lt_eq ex_4596)
          have vx_4596 : x_4596.toInt = 4 * p0.toInt + z_4584.toInt + 45 := by have q := ti_add ex_4596 vx_4595 rfl (by omega) (by omega); omega
          refine va_iald hx hb hK hP 1 0 rfl rfl (ti_in vx_4596 (by omega) (by omega)) dX7_weightOf_41 ?_
          refine lv_topi (fun x_4597 ex_4597 => ?_)
          have hG := hG.trans (lt_eq ex_4597)
          have rg_x_4597 := fb_rng x_4597
          have kx_4597 : (fM_r x_4596.toNatClampNeg).toInt = x_4597.toInt := by rw [ex_4597]
          have cx_4597 : (fM_r (45 + 4 * p0.toNatClampNeg + z_4584.toNatClampNeg)).toInt = x_4597.toInt := by rw [show 45 + 4 * p0.toNatClampNeg + z_4584.toNatClampNeg = x_4596.toNatClampNeg from by have q9 := ti_cl (x := x_4596) vx_4596 (by omega); have q_p0 := ti_cl (x := p0) rfl (by omega); have q_z_4584 := ti_cl (x := z_4584) rfl (by omega); omega]; exact kx_4597
          have sx_4597 := r_R.wts x_4596.toNatClampNeg (by have q9 := ti_cl (x := x_4596) vx_4596 (by omega); omega) (by have q9 := ti_cl (x := x_4596) vx_4596 (by omega); omega)
          exact W.iret hx hb hr (fun t ht hW => ⟨⟨_, 0, rfl, ⟨⟨trivial, ⟨by omega, wOf_hit (z := x_4591) hi1_n_4585 (by have q := cx_4591; rw [show 4 * p0.toNatClampNeg + z_4584.toNatClampNeg = 4 * p0.toNatClampNeg + z_4584.toNatClampNeg from by omega]; exact q) (by omega) (by have q2 := ti_cl (x := z_4584) rfl (by omega); omega) (by have q := cx_4597; rw [show 45 + 4 * p0.toNatClampNeg + z_4584.toNatClampNeg = 45 + 4 * p0.toNatClampNeg + z_4584.toNatClampNeg from by omega]; exact q)⟩⟩, hG⟩, Bw.to (hP.sub [0, 1, 2] rfl) (hD.sub [0, 1, 2] (by decide) rfl) (hK.sub [0, 1] rfl) ht hW⟩, hS.F ht⟩) hS.2.2 dX7_weightOf_42
  exact key_n_4585 (((2147483647 - (0 : Int32).toInt).toNat) + 1) 0 _ _ _  (by first | omega | decide | assumption | (have q0 := kc_0; have q1 := kc_1; omega) | exact rfl) (by first | omega | decide | assumption | (have q0 := kc_0; have q1 := kc_1; omega) | exact rfl) (by omega) hG hP hD hS hl
set_option maxHeartbeats 4000000 in
set_option maxRecDepth 100000 in
theorem tX7_worthAt_x_n (l : Launch) (dC : Nat → ClassId) (dI : Nat → Nat → Nat) : ∀ (n9 : Nat) (sz : Nat) (oM : Nat) (iM_thrown : Int32) (rM_tape : Nat) (iM_taped : Int32) (iM_size : Int32) (iM_at : Int32) (iM_end : Int32) (iM_token : Int32) (iM_whole : Int32) (iM_nameSize : Int32) (iM_fault : Int32) (iM_place : Int32) (iM_trouble : Int32) (rM_letters : Nat) (iM_failed : Int32) (iM_hasCourt : Int32) (rM_r : Nat) (fM_r : Nat → Int32) (kM_r : ClassId) (rM_fresh : Nat) (rM_told : Nat) (fM_told : Nat → Int32) (kM_told : ClassId) (rM_read : Nat) (rM_st : Nat) (rM_undone : Nat) (rM_kept : Nat) (iM_undos : Int32) (iM_images : Int32) (rM_fresher : Nat) (iM_fresherSize : Int32) (iM_scale : Int32) (iM_night : Int32) (rM_heardRow : Nat) (rM_cutRow : Nat) (iM_breaths : Int32) (iM_cutMany : Int32) (iM_allBreaths : Int32) (rM_trial : Nat) (rM_words : Nat) (iM_fewestBreaths : Int32) (iM_orderMany : Int32) (iM_orderSum : Int32) (iM_leastOrder : Int32) (rM_often : Nat) (iM_setMany : Int32) (iM_someOf : Int32) (iM_allOf : Int32) (iM_allWeight : Int64) (iM_enoughWeight : Int64) (iM_worthSum : Int64) (iM_firstRest : Int32) (iM_leastDrawn : Int32) (rQ : Nat) (fQ : Nat → Int32) (kQ : ClassId) (p0 : Int32) (p1 : Int32) (b_iM_taped : 0 ≤ iM_taped.toInt ∧ iM_taped.toInt ≤ 900) (b_iM_size : 0 ≤ iM_size.toInt ∧ iM_size.toInt ≤ 900) (b_iM_end : 0 ≤ iM_end.toInt ∧ iM_end.toInt ≤ 900) (b_iM_failed : 0 ≤ iM_failed.toInt ∧ iM_failed.toInt ≤ 1) (b_iM_hasCourt : 0 ≤ iM_hasCourt.toInt ∧ iM_hasCourt.toInt ≤ 1) (b_iM_undos : 0 ≤ iM_undos.toInt ∧ iM_undos.toInt ≤ 16) (b_iM_images : 0 ≤ iM_images.toInt ∧ iM_images.toInt ≤ 3) (b_iM_scale : 1 ≤ iM_scale.toInt ∧ iM_scale.toInt ≤ 1296) (b_iM_breaths : 0 ≤ iM_breaths.toInt ∧ iM_breaths.toInt ≤ 399) (b_iM_cutMany : 0 ≤ iM_cutMany.toInt ∧ iM_cutMany.toInt ≤ 399) (r_R : ROk fM_r) (r_C : iM_hasCourt.toInt ≤ 0 ∨ (1 ≤ (fM_r 1).toInt ∧ 0 ≤ (fM_r 6).toInt ∧ (fM_r 6).toInt < (fM_r 1).toInt)) (r_told : RowOk fM_r fM_told) (r_Q : RowOk fM_r fQ) (hk0 : 0 ≤ p0.toInt ∧ p0.toInt < (fM_r 1).toInt) (hnt : iM_night.toInt = -1) (hdp : 0 ≤ p1.toInt ∧ p1.toInt + p0.toInt ≤ 100) (hn9 : p0.toInt < (n9 : Int)), Met l yX7_worthAt (Cond.code yX7_worthAt cX7_worthAt 9 (some .int) :: wG) ({ frames := 1 + n9, cells := 0, slots := 0, locals := 10 + 28 * n9 }) (va_Pc [.ref oM, .ref rQ, .int p0, .int p1] (Pw dC dI sz [(oc7 oM iM_thrown rM_tape iM_taped iM_size iM_at iM_end iM_token iM_whole iM_nameSize iM_fault iM_place iM_trouble rM_letters iM_failed iM_hasCourt rM_r rM_fresh rM_told rM_read rM_st rM_undone rM_kept iM_undos iM_images rM_fresher iM_fresherSize iM_scale iM_night rM_heardRow rM_cutRow iM_breaths iM_cutMany iM_allBreaths rM_trial rM_words iM_fewestBreaths iM_orderMany iM_orderSum iM_leastOrder rM_often iM_setMany iM_someOf iM_allOf iM_allWeight iM_enoughWeight iM_worthSum iM_firstRest iM_leastDrawn), (arI rM_r kM_r 287 fM_r), (arI rM_told kM_told 90 fM_told), (arI rQ kQ 90 fQ)] [(kM_r, .int), (kM_told, .int), (kQ, .int)])) (va_Qi (fun (r : Int32) (_ : Nat) => (True ∧ (r = rval fM_r fM_told fQ iM_scale n9 p0.toNatClampNeg)) ∧ PX7_worthAt n9 iM_night fM_r fM_told iM_scale fQ p0 p1 = r) (fun (_ : Nat) (t : State) => Bw dC dI (va_A [(oc7 oM iM_thrown rM_tape iM_taped iM_size iM_at iM_end iM_token iM_whole iM_nameSize iM_fault iM_place iM_trouble rM_letters iM_failed iM_hasCourt rM_r rM_fresh rM_told rM_read rM_st rM_undone rM_kept iM_undos iM_images rM_fresher iM_fresherSize iM_scale iM_night rM_heardRow rM_cutRow iM_breaths iM_cutMany iM_allBreaths rM_trial rM_words iM_fewestBreaths iM_orderMany iM_orderSum iM_leastOrder rM_often iM_setMany iM_someOf iM_allOf iM_allWeight iM_enoughWeight iM_worthSum iM_firstRest iM_leastDrawn), (arI rM_r kM_r 287 fM_r), (arI rM_told kM_told 90 fM_told), (arI rQ kQ 90 fQ)] sz) [(oc7 oM iM_thrown rM_tape iM_taped iM_size iM_at iM_end iM_token iM_whole iM_nameSize iM_fault iM_place iM_trouble rM_letters iM_failed iM_hasCourt rM_r rM_fresh rM_told rM_read rM_st rM_undone rM_kept iM_undos iM_images rM_fresher iM_fresherSize iM_scale iM_night rM_heardRow rM_cutRow iM_breaths iM_cutMany iM_allBreaths rM_trial rM_words iM_fewestBreaths iM_orderMany iM_orderSum iM_leastOrder rM_often iM_setMany iM_someOf iM_allOf iM_allWeight iM_enoughWeight iM_worthSum iM_firstRest iM_leastDrawn), (arI rM_r kM_r 287 fM_r), (arI rM_told kM_told 90 fM_told), (arI rQ kQ 90 fQ)] [(kM_r, .int), (kM_told, .int), (kQ, .int)] t) (va_A [(oc7 oM iM_thrown rM_tape iM_taped iM_size iM_at iM_end iM_token iM_whole iM_nameSize iM_fault iM_place iM_trouble rM_letters iM_failed iM_hasCourt rM_r rM_fresh rM_told rM_read rM_st rM_undone rM_kept iM_undos iM_images rM_fresher iM_fresherSize iM_scale iM_night rM_heardRow rM_cutRow iM_breaths iM_cutMany iM_allBreaths rM_trial rM_words iM_fewestBreaths iM_orderMany iM_orderSum iM_leastOrder rM_often iM_setMany iM_someOf iM_allOf iM_allWeight iM_enoughWeight iM_worthSum iM_firstRest iM_leastDrawn), (arI rM_r kM_r 287 fM_r), (arI rM_told kM_told 90 fM_told), (arI rQ kQ 90 fQ)] sz)) 0 0 (va_A [(oc7 oM iM_thrown rM_tape iM_taped iM_size iM_at iM_end iM_token iM_whole iM_nameSize iM_fault iM_place iM_trouble rM_letters iM_failed iM_hasCourt rM_r rM_fresh rM_told rM_read rM_st rM_undone rM_kept iM_undos iM_images rM_fresher iM_fresherSize iM_scale iM_night rM_heardRow rM_cutRow iM_breaths iM_cutMany iM_allBreaths rM_trial rM_words iM_fewestBreaths iM_orderMany iM_orderSum iM_leastOrder rM_often iM_setMany iM_someOf iM_allOf iM_allWeight iM_enoughWeight iM_worthSum iM_firstRest iM_leastDrawn), (arI rM_r kM_r 287 fM_r), (arI rM_told kM_told 90 fM_told), (arI rQ kQ 90 fQ)] sz) := by
  intro n9
  induction n9 with
  | zero => intro sz oM iM_thrown rM_tape iM_taped iM_size iM_at iM_end iM_token iM_whole iM_nameSize iM_fault iM_place iM_trouble rM_letters iM_failed iM_hasCourt rM_r fM_r kM_r rM_fresh rM_told fM_told kM_told rM_read rM_st rM_undone rM_kept iM_undos iM_images rM_fresher iM_fresherSize iM_scale iM_night rM_heardRow rM_cutRow iM_breaths iM_cutMany iM_allBreaths rM_trial rM_words iM_fewestBreaths iM_orderMany iM_orderSum iM_leastOrder rM_often iM_setMany iM_someOf iM_allOf iM_allWeight iM_enoughWeight iM_worthSum iM_firstRest iM_leastDrawn rQ fQ kQ p0 p1 b_iM_taped b_iM_size b_iM_end b_iM_failed b_iM_hasCourt b_iM_undos b_iM_images b_iM_scale b_iM_breaths b_iM_cutMany r_R r_C r_told r_Q hk0 hnt hdp hn9; exact absurd hn9 (by omega)
  | succ n9 ih9 =>
    intro sz oM iM_thrown rM_tape iM_taped iM_size iM_at iM_end iM_token iM_whole iM_nameSize iM_fault iM_place iM_trouble rM_letters iM_failed iM_hasCourt rM_r fM_r kM_r rM_fresh rM_told fM_told kM_told rM_read rM_st rM_undone rM_kept iM_undos iM_images rM_fresher iM_fresherSize iM_scale iM_night rM_heardRow rM_cutRow iM_breaths iM_cutMany iM_allBreaths rM_trial rM_words iM_fewestBreaths iM_orderMany iM_orderSum iM_leastOrder rM_often iM_setMany iM_someOf iM_allOf iM_allWeight iM_enoughWeight iM_worthSum iM_firstRest iM_leastDrawn rQ fQ kQ p0 p1 b_iM_taped b_iM_size b_iM_end b_iM_failed b_iM_hasCourt b_iM_undos b_iM_images b_iM_scale b_iM_breaths b_iM_cutMany r_R r_C r_told r_Q hk0 hnt hdp hn9
    refine Met.ofW (cc := cX7_worthAt) (maxL := 9) (ret := (some .int)) (by decide) rfl ?_
    intro p e s m args below meth c s₁ B hml hv
    obtain ⟨rfl, hsz, hP, hK, hD0, hE⟩ := hv
    have hx := B.exec
    have hb := B.bytes
    have hr := B.returns
    have hts : ∀ w ∈ wG, w.before ([.ref oM, .ref rQ, .int p0, .int p1] : List Value).toArray s = true := fun w h => atoms_spec (ws := Cond.code yX7_worthAt cX7_worthAt 9 (some .int) :: wG) B.pre w (List.mem_cons_of_mem _ h)
    have hown : s.vm.findClass RX7 = some m.cls := findClass_of_methodNamed B.named
    have hlocks := B.notSynchronized
    subst hsz
    have hD := hD0.self (sz := s.heap.size)
    generalize hAe : va_A [(oc7 oM iM_thrown rM_tape iM_taped iM_size iM_at iM_end iM_token iM_whole iM_nameSize iM_fault iM_place iM_trouble rM_letters iM_failed iM_hasCourt rM_r rM_fresh rM_told rM_read rM_st rM_undone rM_kept iM_undos iM_images rM_fresher iM_fresherSize iM_scale iM_night rM_heardRow rM_cutRow iM_breaths iM_cutMany iM_allBreaths rM_trial rM_words iM_fewestBreaths iM_orderMany iM_orderSum iM_leastOrder rM_often iM_setMany iM_someOf iM_allOf iM_allWeight iM_enoughWeight iM_worthSum iM_firstRest iM_leastDrawn), (arI rM_r kM_r 287 fM_r), (arI rM_told kM_told 90 fM_told), (arI rQ kQ 90 fQ)] s.heap.size = A at hD hE ⊢
    have hA : ∀ q : Nat, s.heap.size ≤ q → A q := fun q h => by rw [← hAe]; exact Or.inr h
    have hS : va_S A s.heap s.heap [] := va_S.rf
    have hl := lv_entry ([.ref oM, .ref rQ, .int p0, .int p1]) (n := 9) (Nat.le_of_ble_eq_true rfl)
    rw [lg_entry_eq]
    generalize (lg_sl ([.ref oM, .ref rQ, .int p0, .int p1]) ++ List.replicate (9 - (lg_sl ([.ref oM, .ref rQ, .int p0, .int p1])).length) Slot.unset).toArray = ls at hl ⊢
    have hl : lv_has ls 9 [(0, .ref oM), (1, .ref rQ), (2, .int p0), (3, .int p1)] := hl
    have hG := PX7_worthAt_eq n9 iM_night fM_r fM_told iM_scale fQ p0 p1
    have s_slips := r_R.slips
    have s_nodes := r_R.nodes
    have s_uns := r_R.uns
    have q_p0 := ti_cl (x := p0) rfl (by omega)
    have mn_p0 := r_R.many (27 + p0.toNatClampNeg) (by omega) (by omega)
    have kn_p0 := r_R.kind (9 + p0.toNatClampNeg) (by omega) (by omega)
    have in_p0 := r_R.inner p0.toNatClampNeg (by omega)
    refine lv_aload_n hx hb dX7_worthAt_0 rfl (lv_at hl 0 rfl) ?_
    refine va_get (D := (dC, dI)) (ci := 7) (v := .ref rM_r) (C := RX7) (T := TX7) (N := 48) hx hb hts inX7 hown hK hP 0 rfl rfl 15 (by decide) (hts _ wd_155) (fun _ h9 => h9) rfl dX7_worthAt_1 ?_
    refine lv_bipush (v := 9) hx hb dX7_worthAt_4 (by decide) ?_
    refine lv_iload_n hx hb dX7_worthAt_6 rfl (lv_at hl 2 rfl) ?_
    refine lv_iadd hx hb dX7_worthAt_7 ?_
    refine lv_topi (fun x_4598 ex_4598 => ?_)
    have hG := hG.trans (lt_eq ex_4598)
    have vx_4598 : x_4598.toInt = p0.toInt + 9 := by have q := ti_add ex_4598 kc_9 rfl (by omega) (by omega); omega
    refine va_iald hx hb hK hP 1 0 rfl rfl (ti_in vx_4598 (by omega) (by omega)) dX7_worthAt_8 ?_
    refine lv_topi (fun x_4599 ex_4599 => ?_)
    have hG := hG.trans (lt_eq ex_4599)
    have kx_4599 : (fM_r x_4598.toNatClampNeg).toInt = x_4599.toInt := by rw [ex_4599]
    have cx_4599 : (fM_r (9 + p0.toNatClampNeg)).toInt = x_4599.toInt := by rw [show 9 + p0.toNatClampNeg = x_4598.toNatClampNeg from by have q9 := ti_cl (x := x_4598) vx_4598 (by omega); have q_p0 := ti_cl (x := p0) rfl (by omega); omega]; exact kx_4599
    have sx_4599 := r_R.kind x_4598.toNatClampNeg (by have q9 := ti_cl (x := x_4598) vx_4598 (by omega); omega) (by have q9 := ti_cl (x := x_4598) vx_4598 (by omega); omega)
    refine lv_istore (lv' := [(4, .int x_4599), (0, .ref oM), (1, .ref rQ), (2, .int p0), (3, .int p1)]) hx hb dX7_worthAt_9 hl (by decide) rfl (fun ls hl => ?_)
    refine lv_iload hx hb dX7_worthAt_11 (lv_at hl 0 rfl) ?_
    refine lv_if_ne (tgt := 28) hx hb dX7_worthAt_13 (by decide) (fun c_4600 => ?_) (fun c_4600 => ?_)
    · skip
      have hG := hG.trans (if_neg c_4600)
      have gc_4600 := ti_ne c_4600 rfl kc_0
      refine lv_iload_n hx hb dX7_worthAt_28 rfl (lv_at hl 4 rfl) ?_
      refine lv_aload_n hx hb dX7_worthAt_29 rfl (lv_at hl 1 rfl) ?_
      refine va_get (D := (dC, dI)) (ci := 7) (v := .int iM_night) (C := RX7) (T := TX7) (N := 48) hx hb hts inX7 hown hK hP 0 rfl rfl 27 (by decide) (hts _ wd_164) (fun _ h9 => h9) rfl dX7_worthAt_30 ?_
      refine lv_icmp_ne (tgt := 44) hx hb dX7_worthAt_33 (by decide) (fun c_4601 => ?_) (fun c_4601 => ?_)
      · skip
        have hG := hG.trans (if_neg c_4601)
        have gc_4601 := ti_ne c_4601 rfl rfl
        refine lv_iload hx hb dX7_worthAt_44 (lv_at hl 0 rfl) ?_
        refine lv_iconst (v := 2) hx hb dX7_worthAt_46 (by decide) ?_
        refine lv_icmp_ne (tgt := 55) hx hb dX7_worthAt_47 (by decide) (fun c_4602 => ?_) (fun c_4602 => ?_)
        · skip
          have hG := hG.trans (if_neg c_4602)
          have gc_4602 := ti_ne c_4602 rfl kc_2
          refine lv_iload hx hb dX7_worthAt_55 (lv_at hl 0 rfl) ?_
          refine lv_iconst (v := 1) hx hb dX7_worthAt_57 (by decide) ?_
          refine lv_icmp_ne (tgt := 66) hx hb dX7_worthAt_58 (by decide) (fun c_4603 => ?_) (fun c_4603 => ?_)
          · skip
            have hG := hG.trans (if_neg c_4603)
            have gc_4603 := ti_ne c_4603 rfl kc_1
            refine lv_iconst (v := 0) hx hb dX7_worthAt_66 (by decide) ?_
            refine lv_istore (lv' := [(5, .int 0), (4, .int x_4599), (0, .ref oM), (1, .ref rQ), (2, .int p0), (3, .int p1)]) hx hb dX7_worthAt_67 hl (by decide) rfl (fun ls hl => ?_)
            refine lv_iconst (v := 0) hx hb dX7_worthAt_69 (by decide) ?_
            refine lv_istore (lv' := [(6, .int 0), (5, .int 0), (4, .int x_4599), (0, .ref oM), (1, .ref rQ), (2, .int p0), (3, .int p1)]) hx hb dX7_worthAt_70 hl (by decide) rfl (fun ls hl => ?_)
            have hl := lv_sub hl (l' := [(6, .int 0), (5, .int 0), (4, .int x_4599), (0, .ref oM), (1, .ref rQ), (2, .int p0), (3, .int p1)]) [0, 1, 2, 3, 4, 5, 6] rfl
            have key_n_4606 : ∀ (n_4606 : Nat) (z_4604 : Int32) (z_4605 : Int32) (H : Heap) (locs : List Loc) (ls : Array Slot), (0 ≤ z_4604.toInt ∧ z_4604.toInt ≤ (fM_r (27 + p0.toNatClampNeg)).toInt) → (z_4605 = foldV (fM_r (9 + p0.toNatClampNeg)).toInt (startV (fM_r (9 + p0.toNatClampNeg)).toInt) (VF fM_r fM_told fQ iM_scale n9 p0.toNatClampNeg) (WF fM_r fM_told fQ p0.toNatClampNeg) z_4604.toNatClampNeg) → (4 - z_4604.toInt).toNat < n_4606 → (PX7_worthAt (n9 + 1) iM_night fM_r fM_told iM_scale fQ p0 p1 = HX7_worthAt_2 (PX7_worthAt n9) fM_r fM_told iM_scale iM_night fQ p0 p1 x_4599 n_4606 z_4604 z_4605) → va_P (dC, dI) vwCl [(oc7 oM iM_thrown rM_tape iM_taped iM_size iM_at iM_end iM_token iM_whole iM_nameSize iM_fault iM_place iM_trouble rM_letters iM_failed iM_hasCourt rM_r rM_fresh rM_told rM_read rM_st rM_undone rM_kept iM_undos iM_images rM_fresher iM_fresherSize iM_scale iM_night rM_heardRow rM_cutRow iM_breaths iM_cutMany iM_allBreaths rM_trial rM_words iM_fewestBreaths iM_orderMany iM_orderSum iM_leastOrder rM_often iM_setMany iM_someOf iM_allOf iM_allWeight iM_enoughWeight iM_worthSum iM_firstRest iM_leastDrawn), (arI rM_r kM_r 287 fM_r), (arI rM_told kM_told 90 fM_told), (arI rQ kQ 90 fQ)] H → va_D A [(oc7 oM iM_thrown rM_tape iM_taped iM_size iM_at iM_end iM_token iM_whole iM_nameSize iM_fault iM_place iM_trouble rM_letters iM_failed iM_hasCourt rM_r rM_fresh rM_told rM_read rM_st rM_undone rM_kept iM_undos iM_images rM_fresher iM_fresherSize iM_scale iM_night rM_heardRow rM_cutRow iM_breaths iM_cutMany iM_allBreaths rM_trial rM_words iM_fewestBreaths iM_orderMany iM_orderSum iM_leastOrder rM_often iM_setMany iM_someOf iM_allOf iM_allWeight iM_enoughWeight iM_worthSum iM_firstRest iM_leastDrawn), (arI rM_r kM_r 287 fM_r), (arI rM_told kM_told 90 fM_told), (arI rQ kQ 90 fQ)] → va_S A s.heap H locs → lv_has ls 9 [(6, .int z_4604), (5, .int z_4605), (4, .int x_4599), (0, .ref oM), (1, .ref rQ), (2, .int p0), (3, .int p1)] → W p l e (headSpec (Cond.code yX7_worthAt cX7_worthAt 9 (some .int) :: wG) ({ frames := 1 + (n9 + 1), cells := 0, slots := 0, locals := 10 + 28 * (n9 + 1) })).room s m ([.ref oM, .ref rQ, .int p0, .int p1] : List Value).toArray below meth c H locs 0 0 (MQ below (va_Qi (fun (r : Int32) (_ : Nat) => (True ∧ (r = rval fM_r fM_told fQ iM_scale (n9 + 1) p0.toNatClampNeg)) ∧ PX7_worthAt (n9 + 1) iM_night fM_r fM_told iM_scale fQ p0 p1 = r) (fun (_ : Nat) (t : State) => Bw dC dI A [(oc7 oM iM_thrown rM_tape iM_taped iM_size iM_at iM_end iM_token iM_whole iM_nameSize iM_fault iM_place iM_trouble rM_letters iM_failed iM_hasCourt rM_r rM_fresh rM_told rM_read rM_st rM_undone rM_kept iM_undos iM_images rM_fresher iM_fresherSize iM_scale iM_night rM_heardRow rM_cutRow iM_breaths iM_cutMany iM_allBreaths rM_trial rM_words iM_fewestBreaths iM_orderMany iM_orderSum iM_leastOrder rM_often iM_setMany iM_someOf iM_allOf iM_allWeight iM_enoughWeight iM_worthSum iM_firstRest iM_leastDrawn), (arI rM_r kM_r 287 fM_r), (arI rM_told kM_told 90 fM_told), (arI rQ kQ 90 fQ)] [(kM_r, .int), (kM_told, .int), (kQ, .int)] t) A) ([.ref oM, .ref rQ, .int p0, .int p1] : List Value).toArray s 0 0 A) (F0 m 72 ls []) := by
              intro n_4606
              induction n_4606 with
              | zero => intro z_4604 z_4605 H locs ls hi0_n_4606 hi1_n_4606 hm; exact absurd hm (by omega)
              | succ n_4606 ih_n_4606 =>
                intro z_4604 z_4605 H locs ls hi0_n_4606 hi1_n_4606 hm hG hP hD hS hl
                have hG := hG.trans (HX7_worthAt_2_eq _ _ _ _ _ _ _ _ _ _ _ _)
                refine lv_iload hx hb dX7_worthAt_72 (lv_at hl 0 rfl) ?_
                refine lv_aload_n hx hb dX7_worthAt_74 rfl (lv_at hl 3 rfl) ?_
                refine va_get (D := (dC, dI)) (ci := 7) (v := .ref rM_r) (C := RX7) (T := TX7) (N := 48) hx hb hts inX7 hown hK hP 0 rfl rfl 15 (by decide) (hts _ wd_155) (fun _ h9 => h9) rfl dX7_worthAt_75 ?_
                refine lv_bipush (v := 27) hx hb dX7_worthAt_78 (by decide) ?_
                refine lv_iload_n hx hb dX7_worthAt_80 rfl (lv_at hl 5 rfl) ?_
                refine lv_iadd hx hb dX7_worthAt_81 ?_
                refine lv_topi (fun x_4607 ex_4607 => ?_)
                have hG := hG.trans (lt_eq ex_4607)
                have vx_4607 : x_4607.toInt = p0.toInt + 27 := by have q := ti_add ex_4607 kc_27 rfl (by omega) (by omega); omega
                refine va_iald hx hb hK hP 1 0 rfl rfl (ti_in vx_4607 (by omega) (by omega)) dX7_worthAt_82 ?_
                refine lv_topi (fun x_4608 ex_4608 => ?_)
                have hG := hG.trans (lt_eq ex_4608)
                have kx_4608 : (fM_r x_4607.toNatClampNeg).toInt = x_4608.toInt := by rw [ex_4608]
                have cx_4608 : (fM_r (27 + p0.toNatClampNeg)).toInt = x_4608.toInt := by rw [show 27 + p0.toNatClampNeg = x_4607.toNatClampNeg from by have q9 := ti_cl (x := x_4607) vx_4607 (by omega); have q_p0 := ti_cl (x := p0) rfl (by omega); omega]; exact kx_4608
                have sx_4608 := r_R.many x_4607.toNatClampNeg (by have q9 := ti_cl (x := x_4607) vx_4607 (by omega); omega) (by have q9 := ti_cl (x := x_4607) vx_4607 (by omega); omega)
                refine lv_icmp_ge (tgt := 179) hx hb dX7_worthAt_83 (by decide) (fun c_4609 => ?_) (fun c_4609 => ?_)
                · skip
                  have hG := hG.trans (if_pos c_4609)
                  have gc_4609 := ti_le c_4609 rfl rfl
                  refine lv_iload hx hb dX7_worthAt_179 (lv_at hl 2 rfl) ?_
                  refine lv_iconst (v := 3) hx hb dX7_worthAt_181 (by decide) ?_
                  refine lv_icmp_ne (tgt := 196) hx hb dX7_worthAt_182 (by decide) (fun c_4610 => ?_) (fun c_4610 => ?_)
                  · skip
                    have hG := hG.trans (if_neg c_4610)
                    have gc_4610 := ti_ne c_4610 rfl kc_3
                    refine lv_iload hx hb dX7_worthAt_196 (lv_at hl 1 rfl) ?_
                    exact W.iret hx hb hr (fun t ht hW => ⟨⟨_, 0, rfl, ⟨⟨trivial, (rval_fold (by omega) (by omega) hi1_n_4606 (by have q1 := ti_cl (x := z_4604) rfl (by omega); omega))⟩, hG⟩, Bw.to (hP.sub [0, 1, 2, 3] rfl) (hD.sub [0, 1, 2, 3] (by decide) rfl) (hK.sub [0, 1, 2] rfl) ht hW⟩, hS.F ht⟩) hS.2.2 dX7_worthAt_198
                  · skip
                    have hG := hG.trans (if_pos c_4610)
                    have gc_4610 := ti_eq c_4610 rfl kc_3
                    refine lv_iload hx hb dX7_worthAt_185 (lv_at hl 1 rfl) ?_
                    refine lv_aload_n hx hb dX7_worthAt_187 rfl (lv_at hl 3 rfl) ?_
                    refine lv_iload_n hx hb dX7_worthAt_188 rfl (lv_at hl 5 rfl) ?_
                    have hFc := va_free (wc := [(oc7 oM iM_thrown rM_tape iM_taped iM_size iM_at iM_end iM_token iM_whole iM_nameSize iM_fault iM_place iM_trouble rM_letters iM_failed iM_hasCourt rM_r rM_fresh rM_told rM_read rM_st rM_undone rM_kept iM_undos iM_images rM_fresher iM_fresherSize iM_scale iM_night rM_heardRow rM_cutRow iM_breaths iM_cutMany iM_allBreaths rM_trial rM_words iM_fewestBreaths iM_orderMany iM_orderSum iM_leastOrder rM_often iM_setMany iM_someOf iM_allOf iM_allWeight iM_enoughWeight iM_worthSum iM_firstRest iM_leastDrawn), (arI rM_r kM_r 287 fM_r)]) hD hS hA [0, 1] rfl
                    refine va_calli (va_runV (As := [.int p0]) (rest := [.int z_4605]) ⟨hx, hb, hml, hown, hts⟩ (tX7_weightsOf_x l dC dI _ oM iM_thrown rM_tape iM_taped iM_size iM_at iM_end iM_token iM_whole iM_nameSize iM_fault iM_place iM_trouble rM_letters iM_failed iM_hasCourt rM_r fM_r kM_r rM_fresh rM_told rM_read rM_st rM_undone rM_kept iM_undos iM_images rM_fresher iM_fresherSize iM_scale iM_night rM_heardRow rM_cutRow iM_breaths iM_cutMany iM_allBreaths rM_trial rM_words iM_fewestBreaths iM_orderMany iM_orderSum iM_leastOrder rM_often iM_setMany iM_someOf iM_allOf iM_allWeight iM_enoughWeight iM_worthSum iM_firstRest iM_leastDrawn p0 (by first | omega | decide) (by first | omega | decide) (by first | omega | decide) (by first | omega | decide) (by first | omega | decide) (by first | omega | decide) (by first | omega | decide) (by first | omega | decide) (by first | omega | decide) (by first | omega | decide) (by assumption) (by assumption) (by first | omega | decide | assumption | (have q0 := kc_0; have q1 := kc_1; omega) | (intro h; exact absurd h (by decide))) (by first | omega | decide | assumption | (have q0 := kc_0; have q1 := kc_1; omega) | (intro h; exact absurd h (by decide)))) (cwV 1 hts (wd_V wd_506 wd_507 wd_508 wd_5 (wd_c wd_509)) rfl rfl rfl (by decide +kernel) ⟨(show (0) + 1 ≤ 1 + (n9 + 1) by omega), (show 8 + (4 + 11) + (0) ≤ 10 + 28 * (n9 + 1) by omega)⟩) ⟨Pw.fb, va_recv hK hP (ci := 7) (q0 := 0) rfl rfl, fun U hU hW => Pw.to (hP.sub [0, 1] rfl) (hD.sub [0, 1] (by decide) rfl) (hK.sub [0] rfl) hE hS hFc hU hW⟩ rfl rfl hl.1 rfl (lv_room (Nat.le_of_ble_eq_true rfl)) dX7_worthAt_189 ⟨Nat.le_of_ble_eq_true rfl, Nat.le_of_ble_eq_true rfl⟩) hS (fun q _ h => hFc q h) hFc (fun r u t H locs ht hvm hw hB hz1 hk1 hS => ?_)
                    have hru9 := hw.2
                    have hw := hw.1
                    obtain ⟨hP, hD, hK⟩ := Bw.go (ws' := [(arI rM_told kM_told 90 fM_told), (arI rQ kQ 90 fQ), (oc7 oM iM_thrown rM_tape iM_taped iM_size iM_at iM_end iM_token iM_whole iM_nameSize iM_fault iM_place iM_trouble rM_letters iM_failed iM_hasCourt rM_r rM_fresh rM_told rM_read rM_st rM_undone rM_kept iM_undos iM_images rM_fresher iM_fresherSize iM_scale iM_night rM_heardRow rM_cutRow iM_breaths iM_cutMany iM_allBreaths rM_trial rM_words iM_fewestBreaths iM_orderMany iM_orderSum iM_leastOrder rM_often iM_setMany iM_someOf iM_allOf iM_allWeight iM_enoughWeight iM_worthSum iM_firstRest iM_leastDrawn), (arI rM_r kM_r 287 fM_r)]) (tys' := [(kM_told, .int), (kQ, .int), (kM_r, .int)]) hB rfl ht hvm hP hD hK [0, 1] [2, 3] rfl (by decide) (by decide) [1, 2] hk1 hFc rfl rfl rfl
                    clear hz1 hk1 hvm ht hB
                    obtain ⟨x_4611, rfl⟩ : ∃ z, z = r := ⟨_, rfl⟩
                    have hG := hG.trans (lt_eq hru9.symm)
                    have lx_4611 := hw.2
                    have ux_4611 := hw.2
                    refine lv_idiv hx hb dX7_worthAt_192 (ti_n0 rfl (by omega)) ?_
                    refine lv_topi (fun x_4612 ex_4612 => ?_)
                    have hG := hG.trans (lt_eq ex_4612)
                    refine lv_goto (tgt := 198) hx hb dX7_worthAt_193 (by decide) ?_
                    exact W.iret hx hb hr (fun t ht hW => ⟨⟨_, 0, rfl, ⟨⟨trivial, (rval_ch (by omega) hi1_n_4606 (by have q1 := ti_cl (x := z_4604) rfl (by omega); omega) lx_4611.2 ex_4612)⟩, hG⟩, Bw.to (hP.sub [2, 3, 0, 1] rfl) (hD.sub [2, 3, 0, 1] (by decide) rfl) (hK.sub [2, 0, 1] rfl) ht hW⟩, hS.F ht⟩) hS.2.2 dX7_worthAt_198
                · skip
                  have hG := hG.trans (if_neg c_4609)
                  have gc_4609 := ti_nle c_4609 rfl rfl
                  refine lv_aload_n hx hb dX7_worthAt_86 rfl (lv_at hl 4 rfl) ?_
                  refine lv_iconst (v := 4) hx hb dX7_worthAt_87 (by decide) ?_
                  refine lv_iload_n hx hb dX7_worthAt_88 rfl (lv_at hl 5 rfl) ?_
                  refine lv_imul hx hb dX7_worthAt_89 ?_
                  refine lv_topi (fun x_4613 ex_4613 => ?_)
                  have hG := hG.trans (lt_eq ex_4613)
                  have vx_4613 : x_4613.toInt = 4 * p0.toInt := by have q := ti_mul ex_4613 kc_4 rfl (by omega) (by omega); omega
                  refine lv_iload hx hb dX7_worthAt_90 (lv_at hl 0 rfl) ?_
                  refine lv_iadd hx hb dX7_worthAt_92 ?_
                  refine lv_topi (fun x_4614 ex_4614 => ?_)
                  have hG := hG.trans (lt_eq ex_4614)
                  have vx_4614 : x_4614.toInt = 4 * p0.toInt + z_4604.toInt := by have q := ti_add ex_4614 vx_4613 rfl (by omega) (by omega); omega
                  refine va_iald hx hb hK hP 3 2 rfl rfl (ti_in vx_4614 (by omega) (by omega)) dX7_worthAt_93 ?_
                  refine lv_topi (fun x_4615 ex_4615 => ?_)
                  have hG := hG.trans (lt_eq ex_4615)
                  have kx_4615 : (fQ x_4614.toNatClampNeg).toInt = x_4615.toInt := by rw [ex_4615]
                  have cx_4615 : (fQ (4 * p0.toNatClampNeg + z_4604.toNatClampNeg)).toInt = x_4615.toInt := by rw [show 4 * p0.toNatClampNeg + z_4604.toNatClampNeg = x_4614.toNatClampNeg from by have q9 := ti_cl (x := x_4614) vx_4614 (by omega); have q_p0 := ti_cl (x := p0) rfl (by omega); have q_z_4604 := ti_cl (x := z_4604) rfl (by omega); omega]; exact kx_4615
                  have wx_4615 := r_Q.lt p0.toNatClampNeg (z_4604.toNatClampNeg) (by have q_1 := ti_cl (x := p0) rfl (by omega); have q_2 := ti_cl (x := z_4604) rfl (by omega); omega) (by have q_1 := ti_cl (x := p0) rfl (by omega); have q_2 := ti_cl (x := z_4604) rfl (by omega); omega)
                  have wx_4615 : 0 ≤ x_4615.toInt ∧ x_4615.toInt < p0.toInt := by have q_1 := ti_cl (x := p0) rfl (by omega); have q_2 := ti_cl (x := z_4604) rfl (by omega); have q_3 := cx_4615; rw [show 4 * p0.toNatClampNeg + (z_4604.toNatClampNeg) = 4 * p0.toNatClampNeg + z_4604.toNatClampNeg from by omega] at wx_4615; omega
                  refine lv_istore (lv' := [(7, .int x_4615), (6, .int z_4604), (5, .int z_4605), (4, .int x_4599), (0, .ref oM), (1, .ref rQ), (2, .int p0), (3, .int p1)]) hx hb dX7_worthAt_94 hl (by decide) rfl (fun ls hl => ?_)
                  refine lv_aload_n hx hb dX7_worthAt_96 rfl (lv_at hl 4 rfl) ?_
                  refine lv_aload_n hx hb dX7_worthAt_97 rfl (lv_at hl 5 rfl) ?_
                  refine lv_iload hx hb dX7_worthAt_98 (lv_at hl 0 rfl) ?_
                  refine lv_iload_n hx hb dX7_worthAt_100 rfl (lv_at hl 7 rfl) ?_
                  refine lv_iconst (v := 1) hx hb dX7_worthAt_101 (by decide) ?_
                  refine lv_iadd hx hb dX7_worthAt_102 ?_
                  refine lv_topi (fun x_4616 ex_4616 => ?_)
                  have hG := hG.trans (lt_eq ex_4616)
                  have vx_4616 : x_4616.toInt = p1.toInt + 1 := by have q := ti_add ex_4616 rfl kc_1 (by omega) (by omega); omega
                  have hFc := va_free (wc := [(oc7 oM iM_thrown rM_tape iM_taped iM_size iM_at iM_end iM_token iM_whole iM_nameSize iM_fault iM_place iM_trouble rM_letters iM_failed iM_hasCourt rM_r rM_fresh rM_told rM_read rM_st rM_undone rM_kept iM_undos iM_images rM_fresher iM_fresherSize iM_scale iM_night rM_heardRow rM_cutRow iM_breaths iM_cutMany iM_allBreaths rM_trial rM_words iM_fewestBreaths iM_orderMany iM_orderSum iM_leastOrder rM_often iM_setMany iM_someOf iM_allOf iM_allWeight iM_enoughWeight iM_worthSum iM_firstRest iM_leastDrawn), (arI rM_r kM_r 287 fM_r), (arI rM_told kM_told 90 fM_told), (arI rQ kQ 90 fQ)]) hD hS hA [0, 1, 2, 3] rfl
                  refine va_calli (va_runV (As := [.ref rQ, .int x_4615, .int x_4616]) (rest := []) ⟨hx, hb, hml, hown, hts⟩ (ih9 _ oM iM_thrown rM_tape iM_taped iM_size iM_at iM_end iM_token iM_whole iM_nameSize iM_fault iM_place iM_trouble rM_letters iM_failed iM_hasCourt rM_r fM_r kM_r rM_fresh rM_told fM_told kM_told rM_read rM_st rM_undone rM_kept iM_undos iM_images rM_fresher iM_fresherSize iM_scale iM_night rM_heardRow rM_cutRow iM_breaths iM_cutMany iM_allBreaths rM_trial rM_words iM_fewestBreaths iM_orderMany iM_orderSum iM_leastOrder rM_often iM_setMany iM_someOf iM_allOf iM_allWeight iM_enoughWeight iM_worthSum iM_firstRest iM_leastDrawn rQ fQ kQ x_4615 x_4616 (by first | omega | decide) (by first | omega | decide) (by first | omega | decide) (by first | omega | decide) (by first | omega | decide) (by first | omega | decide) (by first | omega | decide) (by first | omega | decide) (by first | omega | decide) (by first | omega | decide) (by assumption) (by assumption) (by assumption) (by assumption) (by first | omega | decide | assumption | (have q0 := kc_0; have q1 := kc_1; omega) | (intro h; exact absurd h (by decide))) (by first | omega | decide | assumption | (have q0 := kc_0; have q1 := kc_1; omega) | (intro h; exact absurd h (by decide))) (by first | omega | decide | assumption | (have q0 := kc_0; have q1 := kc_1; omega) | (intro h; exact absurd h (by decide))) (by first | omega | decide | assumption | (have q0 := kc_0; have q1 := kc_1; omega) | (intro h; exact absurd h (by decide)))) (cwV 3 hts (wd_V wd_649 wd_650 wd_651 wd_5 (wd_c wd_652)) rfl rfl rfl (by decide +kernel) ⟨(show (1 + n9) + 1 ≤ 1 + (n9 + 1) by omega), (show 8 + (9 + 11) + (10 + 28 * n9) ≤ 10 + 28 * (n9 + 1) by omega)⟩) ⟨Pw.fb, va_recv hK hP (ci := 7) (q0 := 0) rfl rfl, fun U hU hW => Pw.to (hP.sub [0, 1, 2, 3] rfl) (hD.sub [0, 1, 2, 3] (by decide) rfl) (hK.sub [0, 1, 2] rfl) hE hS hFc hU hW⟩ rfl rfl hl.1 rfl (lv_room (Nat.le_of_ble_eq_true rfl)) dX7_worthAt_103 ⟨Nat.le_of_ble_eq_true rfl, Nat.le_of_ble_eq_true rfl⟩) hS (fun q _ h => hFc q h) hFc (fun r u t H locs ht hvm hw hB hz1 hk1 hS => ?_)
                  have hru9 := hw.2
                  have hw := hw.1
                  obtain ⟨hP, hD, hK⟩ := Bw.go (ws' := [(oc7 oM iM_thrown rM_tape iM_taped iM_size iM_at iM_end iM_token iM_whole iM_nameSize iM_fault iM_place iM_trouble rM_letters iM_failed iM_hasCourt rM_r rM_fresh rM_told rM_read rM_st rM_undone rM_kept iM_undos iM_images rM_fresher iM_fresherSize iM_scale iM_night rM_heardRow rM_cutRow iM_breaths iM_cutMany iM_allBreaths rM_trial rM_words iM_fewestBreaths iM_orderMany iM_orderSum iM_leastOrder rM_often iM_setMany iM_someOf iM_allOf iM_allWeight iM_enoughWeight iM_worthSum iM_firstRest iM_leastDrawn), (arI rM_r kM_r 287 fM_r), (arI rM_told kM_told 90 fM_told), (arI rQ kQ 90 fQ)]) (tys' := [(kM_r, .int), (kM_told, .int), (kQ, .int)]) hB rfl ht hvm hP hD hK [0, 1, 2, 3] [] rfl (by decide) (by decide) [] hk1 hFc rfl rfl rfl
                  clear hz1 hk1 hvm ht hB
                  obtain ⟨x_4617, rfl⟩ : ∃ z, z = r := ⟨_, rfl⟩
                  have hG := hG.trans (lt_eq hru9.symm)
                  have lx_4617 := hw.2
                  refine lv_istore (lv' := [(8, .int x_4617), (7, .int x_4615), (6, .int z_4604), (5, .int z_4605), (4, .int x_4599), (0, .ref oM), (1, .ref rQ), (2, .int p0), (3, .int p1)]) hx hb dX7_worthAt_106 hl (by decide) rfl (fun ls hl => ?_)
                  refine lv_iload hx hb dX7_worthAt_108 (lv_at hl 4 rfl) ?_
                  refine lv_iconst (v := 1) hx hb dX7_worthAt_110 (by decide) ?_
                  refine lv_icmp_ne (tgt := 133) hx hb dX7_worthAt_111 (by decide) (fun c_4618 => ?_) (fun c_4618 => ?_)
                  · skip
                    have hG := hG.trans (if_neg c_4618)
                    have gc_4618 := ti_ne c_4618 rfl kc_1
                    refine lv_iload hx hb dX7_worthAt_133 (lv_at hl 4 rfl) ?_
                    refine lv_iconst (v := 2) hx hb dX7_worthAt_135 (by decide) ?_
                    refine lv_icmp_ne (tgt := 158) hx hb dX7_worthAt_136 (by decide) (fun c_4619 => ?_) (fun c_4619 => ?_)
                    · skip
                      have hG := hG.trans (if_neg c_4619)
                      have gc_4619 := ti_ne c_4619 rfl kc_2
                      refine lv_iload hx hb dX7_worthAt_158 (lv_at hl 3 rfl) ?_
                      refine lv_iload hx hb dX7_worthAt_160 (lv_at hl 0 rfl) ?_
                      refine lv_aload_n hx hb dX7_worthAt_162 rfl (lv_at hl 5 rfl) ?_
                      refine lv_iload_n hx hb dX7_worthAt_163 rfl (lv_at hl 7 rfl) ?_
                      refine lv_iload hx hb dX7_worthAt_164 (lv_at hl 1 rfl) ?_
                      have hFc := va_free (wc := [(oc7 oM iM_thrown rM_tape iM_taped iM_size iM_at iM_end iM_token iM_whole iM_nameSize iM_fault iM_place iM_trouble rM_letters iM_failed iM_hasCourt rM_r rM_fresh rM_told rM_read rM_st rM_undone rM_kept iM_undos iM_images rM_fresher iM_fresherSize iM_scale iM_night rM_heardRow rM_cutRow iM_breaths iM_cutMany iM_allBreaths rM_trial rM_words iM_fewestBreaths iM_orderMany iM_orderSum iM_leastOrder rM_often iM_setMany iM_someOf iM_allOf iM_allWeight iM_enoughWeight iM_worthSum iM_firstRest iM_leastDrawn), (arI rM_r kM_r 287 fM_r), (arI rM_told kM_told 90 fM_told)]) hD hS hA [0, 1, 2] rfl
                      refine va_calli (va_runV (As := [.int p0, .int x_4615]) (rest := [.int x_4617, .int z_4605]) ⟨hx, hb, hml, hown, hts⟩ (tX7_weightOf_x l dC dI _ oM iM_thrown rM_tape iM_taped iM_size iM_at iM_end iM_token iM_whole iM_nameSize iM_fault iM_place iM_trouble rM_letters iM_failed iM_hasCourt rM_r fM_r kM_r rM_fresh rM_told fM_told kM_told rM_read rM_st rM_undone rM_kept iM_undos iM_images rM_fresher iM_fresherSize iM_scale iM_night rM_heardRow rM_cutRow iM_breaths iM_cutMany iM_allBreaths rM_trial rM_words iM_fewestBreaths iM_orderMany iM_orderSum iM_leastOrder rM_often iM_setMany iM_someOf iM_allOf iM_allWeight iM_enoughWeight iM_worthSum iM_firstRest iM_leastDrawn p0 x_4615 (by first | omega | decide) (by first | omega | decide) (by first | omega | decide) (by first | omega | decide) (by first | omega | decide) (by first | omega | decide) (by first | omega | decide) (by first | omega | decide) (by first | omega | decide) (by first | omega | decide) (by assumption) (by assumption) (by assumption) (by first | omega | decide | assumption | (have q0 := kc_0; have q1 := kc_1; omega) | (intro h; exact absurd h (by decide)))) (cwV 2 hts (wd_V wd_587 wd_588 wd_589 wd_5 (wd_c wd_590)) rfl rfl rfl (by decide +kernel) ⟨(show (0) + 1 ≤ 1 + (n9 + 1) by omega), (show 8 + (4 + 11) + (0) ≤ 10 + 28 * (n9 + 1) by omega)⟩) ⟨Pw.fb, va_recv hK hP (ci := 7) (q0 := 0) rfl rfl, fun U hU hW => Pw.to (hP.sub [0, 1, 2] rfl) (hD.sub [0, 1, 2] (by decide) rfl) (hK.sub [0, 1] rfl) hE hS hFc hU hW⟩ rfl rfl hl.1 rfl (lv_room (Nat.le_of_ble_eq_true rfl)) dX7_worthAt_166 ⟨Nat.le_of_ble_eq_true rfl, Nat.le_of_ble_eq_true rfl⟩) hS (fun q _ h => hFc q h) hFc (fun r u t H locs ht hvm hw hB hz1 hk1 hS => ?_)
                      have hru9 := hw.2
                      have hw := hw.1
                      obtain ⟨hP, hD, hK⟩ := Bw.go (ws' := [(arI rQ kQ 90 fQ), (oc7 oM iM_thrown rM_tape iM_taped iM_size iM_at iM_end iM_token iM_whole iM_nameSize iM_fault iM_place iM_trouble rM_letters iM_failed iM_hasCourt rM_r rM_fresh rM_told rM_read rM_st rM_undone rM_kept iM_undos iM_images rM_fresher iM_fresherSize iM_scale iM_night rM_heardRow rM_cutRow iM_breaths iM_cutMany iM_allBreaths rM_trial rM_words iM_fewestBreaths iM_orderMany iM_orderSum iM_leastOrder rM_often iM_setMany iM_someOf iM_allOf iM_allWeight iM_enoughWeight iM_worthSum iM_firstRest iM_leastDrawn), (arI rM_r kM_r 287 fM_r), (arI rM_told kM_told 90 fM_told)]) (tys' := [(kQ, .int), (kM_r, .int), (kM_told, .int)]) hB rfl ht hvm hP hD hK [0, 1, 2] [3] rfl (by decide) (by decide) [2] hk1 hFc rfl rfl rfl
                      clear hz1 hk1 hvm ht hB
                      obtain ⟨x_4620, rfl⟩ : ∃ z, z = r := ⟨_, rfl⟩
                      have hG := hG.trans (lt_eq hru9.symm)
                      have lx_4620 := hw.2
                      have ux_4620 := hw.2
                      refine lv_imul hx hb dX7_worthAt_169 ?_
                      refine lv_topi (fun x_4621 ex_4621 => ?_)
                      have hG := hG.trans (lt_eq ex_4621)
                      refine lv_iadd hx hb dX7_worthAt_170 ?_
                      refine lv_topi (fun x_4622 ex_4622 => ?_)
                      have hG := hG.trans (lt_eq ex_4622)
                      refine lv_istore (lv' := [(5, .int x_4622), (8, .int x_4617), (7, .int x_4615), (6, .int z_4604), (4, .int x_4599), (0, .ref oM), (1, .ref rQ), (2, .int p0), (3, .int p1)]) hx hb dX7_worthAt_171 hl (by decide) rfl (fun ls hl => ?_)
                      obtain ⟨x_4623, ex_4623⟩ : ∃ z : Int32, z = z_4604 + Int32.ofInt 1 := ⟨_, rfl⟩
                      have hG := hG.trans (lt_eq ex_4623)
                      have vx_4623 : x_4623.toInt = z_4604.toInt + 1 := by have q := ti_add (y := 1) ex_4623 rfl kc_1 (by omega) (by omega); omega
                      refine lv_iinc (v := x_4623) (lv' := [(6, .int x_4623), (5, .int x_4622), (8, .int x_4617), (7, .int x_4615), (4, .int x_4599), (0, .ref oM), (1, .ref rQ), (2, .int p0), (3, .int p1)]) hx hb dX7_worthAt_173 hl (k := 3) rfl ex_4623.symm (by decide) rfl (fun ls hl => ?_)
                      refine lv_goto (tgt := 72) hx hb dX7_worthAt_176 (by decide) ?_
                      exact ih_n_4606 x_4623 x_4622 _ _ _  (by first | omega | decide | assumption) (fold_step (v := x_4617) (part := x_4615) hi1_n_4606 (by have q := cx_4615; rw [show 4 * p0.toNatClampNeg + z_4604.toNatClampNeg = 4 * p0.toNatClampNeg + z_4604.toNatClampNeg from by omega]; exact q) lx_4617 (step_c (by omega) (by omega) ex_4622 ex_4621 lx_4620.2) (by have q1 := ti_cl (x := x_4623) vx_4623 (by omega); have q2 := ti_cl (x := z_4604) rfl (by omega); omega)) (by omega) hG (hP.sub [1, 2, 3, 0] rfl) (hD.sub [1, 2, 3, 0] (by decide) rfl) hS (lv_sub hl [0, 1, 4, 5, 6, 7, 8] rfl)
                    · skip
                      have hG := hG.trans (if_pos c_4619)
                      have gc_4619 := ti_eq c_4619 rfl kc_2
                      refine lv_iload hx hb dX7_worthAt_139 (lv_at hl 0 rfl) ?_
                      refine lv_iload hx hb dX7_worthAt_141 (lv_at hl 3 rfl) ?_
                      refine lv_icmp_ge (tgt := 151) hx hb dX7_worthAt_143 (by decide) (fun c_4624 => ?_) (fun c_4624 => ?_)
                      · skip
                        have hG := hG.trans (if_pos c_4624)
                        have gc_4624 := ti_le c_4624 rfl rfl
                        refine lv_iload hx hb dX7_worthAt_151 (lv_at hl 3 rfl) ?_
                        refine lv_istore (lv' := [(5, .int z_4605), (8, .int x_4617), (7, .int x_4615), (6, .int z_4604), (4, .int x_4599), (0, .ref oM), (1, .ref rQ), (2, .int p0), (3, .int p1)]) hx hb dX7_worthAt_153 hl (by decide) rfl (fun ls hl => ?_)
                        refine lv_goto (tgt := 173) hx hb dX7_worthAt_155 (by decide) ?_
                        obtain ⟨x_4625, ex_4625⟩ : ∃ z : Int32, z = z_4604 + Int32.ofInt 1 := ⟨_, rfl⟩
                        have hG := hG.trans (lt_eq ex_4625)
                        have vx_4625 : x_4625.toInt = z_4604.toInt + 1 := by have q := ti_add (y := 1) ex_4625 rfl kc_1 (by omega) (by omega); omega
                        refine lv_iinc (v := x_4625) (lv' := [(6, .int x_4625), (5, .int z_4605), (8, .int x_4617), (7, .int x_4615), (4, .int x_4599), (0, .ref oM), (1, .ref rQ), (2, .int p0), (3, .int p1)]) hx hb dX7_worthAt_173 hl (k := 3) rfl ex_4625.symm (by decide) rfl (fun ls hl => ?_)
                        refine lv_goto (tgt := 72) hx hb dX7_worthAt_176 (by decide) ?_
                        exact ih_n_4606 x_4625 z_4605 _ _ _  (by first | omega | decide | assumption) (fold_step (v := x_4617) (part := x_4615) hi1_n_4606 (by have q := cx_4615; rw [show 4 * p0.toNatClampNeg + z_4604.toNatClampNeg = 4 * p0.toNatClampNeg + z_4604.toNatClampNeg from by omega]; exact q) lx_4617 (by first | exact step_k0 (by omega) (by omega) | exact step_q0 (by omega) (by omega)) (by have q1 := ti_cl (x := x_4625) vx_4625 (by omega); have q2 := ti_cl (x := z_4604) rfl (by omega); omega)) (by omega) hG (hP.sub [0, 1, 2, 3] rfl) (hD.sub [0, 1, 2, 3] (by decide) rfl) hS (lv_sub hl [0, 1, 4, 5, 6, 7, 8] rfl)
                      · skip
                        have hG := hG.trans (if_neg c_4624)
                        have gc_4624 := ti_nle c_4624 rfl rfl
                        refine lv_iload hx hb dX7_worthAt_146 (lv_at hl 0 rfl) ?_
                        refine lv_goto (tgt := 153) hx hb dX7_worthAt_148 (by decide) ?_
                        refine lv_istore (lv' := [(5, .int x_4617), (8, .int x_4617), (7, .int x_4615), (6, .int z_4604), (4, .int x_4599), (0, .ref oM), (1, .ref rQ), (2, .int p0), (3, .int p1)]) hx hb dX7_worthAt_153 hl (by decide) rfl (fun ls hl => ?_)
                        refine lv_goto (tgt := 173) hx hb dX7_worthAt_155 (by decide) ?_
                        obtain ⟨x_4626, ex_4626⟩ : ∃ z : Int32, z = z_4604 + Int32.ofInt 1 := ⟨_, rfl⟩
                        have hG := hG.trans (lt_eq ex_4626)
                        have vx_4626 : x_4626.toInt = z_4604.toInt + 1 := by have q := ti_add (y := 1) ex_4626 rfl kc_1 (by omega) (by omega); omega
                        refine lv_iinc (v := x_4626) (lv' := [(6, .int x_4626), (5, .int x_4617), (8, .int x_4617), (7, .int x_4615), (4, .int x_4599), (0, .ref oM), (1, .ref rQ), (2, .int p0), (3, .int p1)]) hx hb dX7_worthAt_173 hl (k := 3) rfl ex_4626.symm (by decide) rfl (fun ls hl => ?_)
                        refine lv_goto (tgt := 72) hx hb dX7_worthAt_176 (by decide) ?_
                        exact ih_n_4606 x_4626 x_4617 _ _ _  (by first | omega | decide | assumption) (fold_step (v := x_4617) (part := x_4615) hi1_n_4606 (by have q := cx_4615; rw [show 4 * p0.toNatClampNeg + z_4604.toNatClampNeg = 4 * p0.toNatClampNeg + z_4604.toNatClampNeg from by omega]; exact q) lx_4617 (by first | exact step_k1 (by omega) (by omega) | exact step_q1 (by omega) (by omega)) (by have q1 := ti_cl (x := x_4626) vx_4626 (by omega); have q2 := ti_cl (x := z_4604) rfl (by omega); omega)) (by omega) hG (hP.sub [0, 1, 2, 3] rfl) (hD.sub [0, 1, 2, 3] (by decide) rfl) hS (lv_sub hl [0, 1, 4, 5, 6, 7, 8] rfl)
                  · skip
                    have hG := hG.trans (if_pos c_4618)
                    have gc_4618 := ti_eq c_4618 rfl kc_1
                    exfalso; clear hG; omega
            exact key_n_4606 (((4 - (0 : Int32).toInt).toNat) + 1) 0 0 _ _ _  (by first | omega | decide | assumption | (have q0 := kc_0; have q1 := kc_1; omega) | (show _ = startV _; rw [show (fM_r (9 + p0.toNatClampNeg)).toInt = 1 from by omega]; rfl) | (show _ = startV _; rw [show (fM_r (9 + p0.toNatClampNeg)).toInt = 2 from by omega]; rfl) | (show _ = startV _; rw [show (fM_r (9 + p0.toNatClampNeg)).toInt = 3 from by omega]; rfl)) (by first | omega | decide | assumption | (have q0 := kc_0; have q1 := kc_1; omega) | (show _ = startV _; rw [show (fM_r (9 + p0.toNatClampNeg)).toInt = 1 from by omega]; rfl) | (show _ = startV _; rw [show (fM_r (9 + p0.toNatClampNeg)).toInt = 2 from by omega]; rfl) | (show _ = startV _; rw [show (fM_r (9 + p0.toNatClampNeg)).toInt = 3 from by omega]; rfl)) (by omega) hG hP hD hS hl
          · skip
            have hG := hG.trans (if_pos c_4603)
            have gc_4603 := ti_eq c_4603 rfl kc_1
            refine lv_ldc hx hb hown (hts _ wd_654) dX7_worthAt_61 ?_
            refine lv_goto (tgt := 67) hx hb dX7_worthAt_63 (by decide) ?_
            refine lv_istore (lv' := [(5, .int (-100000000)), (4, .int x_4599), (0, .ref oM), (1, .ref rQ), (2, .int p0), (3, .int p1)]) hx hb dX7_worthAt_67 hl (by decide) rfl (fun ls hl => ?_)
            refine lv_iconst (v := 0) hx hb dX7_worthAt_69 (by decide) ?_
            refine lv_istore (lv' := [(6, .int 0), (5, .int (-100000000)), (4, .int x_4599), (0, .ref oM), (1, .ref rQ), (2, .int p0), (3, .int p1)]) hx hb dX7_worthAt_70 hl (by decide) rfl (fun ls hl => ?_)
            have hl := lv_sub hl (l' := [(6, .int 0), (5, .int (-100000000)), (4, .int x_4599), (0, .ref oM), (1, .ref rQ), (2, .int p0), (3, .int p1)]) [0, 1, 2, 3, 4, 5, 6] rfl
            have key_n_4629 : ∀ (n_4629 : Nat) (z_4627 : Int32) (z_4628 : Int32) (H : Heap) (locs : List Loc) (ls : Array Slot), (0 ≤ z_4627.toInt ∧ z_4627.toInt ≤ (fM_r (27 + p0.toNatClampNeg)).toInt) → (z_4628 = foldV (fM_r (9 + p0.toNatClampNeg)).toInt (startV (fM_r (9 + p0.toNatClampNeg)).toInt) (VF fM_r fM_told fQ iM_scale n9 p0.toNatClampNeg) (WF fM_r fM_told fQ p0.toNatClampNeg) z_4627.toNatClampNeg) → (4 - z_4627.toInt).toNat < n_4629 → (PX7_worthAt (n9 + 1) iM_night fM_r fM_told iM_scale fQ p0 p1 = HX7_worthAt_1 (PX7_worthAt n9) fM_r fM_told iM_scale iM_night fQ p0 p1 x_4599 n_4629 z_4627 z_4628) → va_P (dC, dI) vwCl [(oc7 oM iM_thrown rM_tape iM_taped iM_size iM_at iM_end iM_token iM_whole iM_nameSize iM_fault iM_place iM_trouble rM_letters iM_failed iM_hasCourt rM_r rM_fresh rM_told rM_read rM_st rM_undone rM_kept iM_undos iM_images rM_fresher iM_fresherSize iM_scale iM_night rM_heardRow rM_cutRow iM_breaths iM_cutMany iM_allBreaths rM_trial rM_words iM_fewestBreaths iM_orderMany iM_orderSum iM_leastOrder rM_often iM_setMany iM_someOf iM_allOf iM_allWeight iM_enoughWeight iM_worthSum iM_firstRest iM_leastDrawn), (arI rM_r kM_r 287 fM_r), (arI rM_told kM_told 90 fM_told), (arI rQ kQ 90 fQ)] H → va_D A [(oc7 oM iM_thrown rM_tape iM_taped iM_size iM_at iM_end iM_token iM_whole iM_nameSize iM_fault iM_place iM_trouble rM_letters iM_failed iM_hasCourt rM_r rM_fresh rM_told rM_read rM_st rM_undone rM_kept iM_undos iM_images rM_fresher iM_fresherSize iM_scale iM_night rM_heardRow rM_cutRow iM_breaths iM_cutMany iM_allBreaths rM_trial rM_words iM_fewestBreaths iM_orderMany iM_orderSum iM_leastOrder rM_often iM_setMany iM_someOf iM_allOf iM_allWeight iM_enoughWeight iM_worthSum iM_firstRest iM_leastDrawn), (arI rM_r kM_r 287 fM_r), (arI rM_told kM_told 90 fM_told), (arI rQ kQ 90 fQ)] → va_S A s.heap H locs → lv_has ls 9 [(6, .int z_4627), (5, .int z_4628), (4, .int x_4599), (0, .ref oM), (1, .ref rQ), (2, .int p0), (3, .int p1)] → W p l e (headSpec (Cond.code yX7_worthAt cX7_worthAt 9 (some .int) :: wG) ({ frames := 1 + (n9 + 1), cells := 0, slots := 0, locals := 10 + 28 * (n9 + 1) })).room s m ([.ref oM, .ref rQ, .int p0, .int p1] : List Value).toArray below meth c H locs 0 0 (MQ below (va_Qi (fun (r : Int32) (_ : Nat) => (True ∧ (r = rval fM_r fM_told fQ iM_scale (n9 + 1) p0.toNatClampNeg)) ∧ PX7_worthAt (n9 + 1) iM_night fM_r fM_told iM_scale fQ p0 p1 = r) (fun (_ : Nat) (t : State) => Bw dC dI A [(oc7 oM iM_thrown rM_tape iM_taped iM_size iM_at iM_end iM_token iM_whole iM_nameSize iM_fault iM_place iM_trouble rM_letters iM_failed iM_hasCourt rM_r rM_fresh rM_told rM_read rM_st rM_undone rM_kept iM_undos iM_images rM_fresher iM_fresherSize iM_scale iM_night rM_heardRow rM_cutRow iM_breaths iM_cutMany iM_allBreaths rM_trial rM_words iM_fewestBreaths iM_orderMany iM_orderSum iM_leastOrder rM_often iM_setMany iM_someOf iM_allOf iM_allWeight iM_enoughWeight iM_worthSum iM_firstRest iM_leastDrawn), (arI rM_r kM_r 287 fM_r), (arI rM_told kM_told 90 fM_told), (arI rQ kQ 90 fQ)] [(kM_r, .int), (kM_told, .int), (kQ, .int)] t) A) ([.ref oM, .ref rQ, .int p0, .int p1] : List Value).toArray s 0 0 A) (F0 m 72 ls []) := by
              intro n_4629
              induction n_4629 with
              | zero => intro z_4627 z_4628 H locs ls hi0_n_4629 hi1_n_4629 hm; exact absurd hm (by omega)
              | succ n_4629 ih_n_4629 =>
                intro z_4627 z_4628 H locs ls hi0_n_4629 hi1_n_4629 hm hG hP hD hS hl
                have hG := hG.trans (HX7_worthAt_1_eq _ _ _ _ _ _ _ _ _ _ _ _)
                refine lv_iload hx hb dX7_worthAt_72 (lv_at hl 0 rfl) ?_
                refine lv_aload_n hx hb dX7_worthAt_74 rfl (lv_at hl 3 rfl) ?_
                refine va_get (D := (dC, dI)) (ci := 7) (v := .ref rM_r) (C := RX7) (T := TX7) (N := 48) hx hb hts inX7 hown hK hP 0 rfl rfl 15 (by decide) (hts _ wd_155) (fun _ h9 => h9) rfl dX7_worthAt_75 ?_
                refine lv_bipush (v := 27) hx hb dX7_worthAt_78 (by decide) ?_
                refine lv_iload_n hx hb dX7_worthAt_80 rfl (lv_at hl 5 rfl) ?_
                refine lv_iadd hx hb dX7_worthAt_81 ?_
                refine lv_topi (fun x_4630 ex_4630 => ?_)
                have hG := hG.trans (lt_eq ex_4630)
                have vx_4630 : x_4630.toInt = p0.toInt + 27 := by have q := ti_add ex_4630 kc_27 rfl (by omega) (by omega); omega
                refine va_iald hx hb hK hP 1 0 rfl rfl (ti_in vx_4630 (by omega) (by omega)) dX7_worthAt_82 ?_
                refine lv_topi (fun x_4631 ex_4631 => ?_)
                have hG := hG.trans (lt_eq ex_4631)
                have kx_4631 : (fM_r x_4630.toNatClampNeg).toInt = x_4631.toInt := by rw [ex_4631]
                have cx_4631 : (fM_r (27 + p0.toNatClampNeg)).toInt = x_4631.toInt := by rw [show 27 + p0.toNatClampNeg = x_4630.toNatClampNeg from by have q9 := ti_cl (x := x_4630) vx_4630 (by omega); have q_p0 := ti_cl (x := p0) rfl (by omega); omega]; exact kx_4631
                have sx_4631 := r_R.many x_4630.toNatClampNeg (by have q9 := ti_cl (x := x_4630) vx_4630 (by omega); omega) (by have q9 := ti_cl (x := x_4630) vx_4630 (by omega); omega)
                refine lv_icmp_ge (tgt := 179) hx hb dX7_worthAt_83 (by decide) (fun c_4632 => ?_) (fun c_4632 => ?_)
                · skip
                  have hG := hG.trans (if_pos c_4632)
                  have gc_4632 := ti_le c_4632 rfl rfl
                  refine lv_iload hx hb dX7_worthAt_179 (lv_at hl 2 rfl) ?_
                  refine lv_iconst (v := 3) hx hb dX7_worthAt_181 (by decide) ?_
                  refine lv_icmp_ne (tgt := 196) hx hb dX7_worthAt_182 (by decide) (fun c_4633 => ?_) (fun c_4633 => ?_)
                  · skip
                    have hG := hG.trans (if_neg c_4633)
                    have gc_4633 := ti_ne c_4633 rfl kc_3
                    refine lv_iload hx hb dX7_worthAt_196 (lv_at hl 1 rfl) ?_
                    exact W.iret hx hb hr (fun t ht hW => ⟨⟨_, 0, rfl, ⟨⟨trivial, (rval_fold (by omega) (by omega) hi1_n_4629 (by have q1 := ti_cl (x := z_4627) rfl (by omega); omega))⟩, hG⟩, Bw.to (hP.sub [0, 1, 2, 3] rfl) (hD.sub [0, 1, 2, 3] (by decide) rfl) (hK.sub [0, 1, 2] rfl) ht hW⟩, hS.F ht⟩) hS.2.2 dX7_worthAt_198
                  · skip
                    have hG := hG.trans (if_pos c_4633)
                    have gc_4633 := ti_eq c_4633 rfl kc_3
                    exfalso; clear hG; omega
                · skip
                  have hG := hG.trans (if_neg c_4632)
                  have gc_4632 := ti_nle c_4632 rfl rfl
                  refine lv_aload_n hx hb dX7_worthAt_86 rfl (lv_at hl 4 rfl) ?_
                  refine lv_iconst (v := 4) hx hb dX7_worthAt_87 (by decide) ?_
                  refine lv_iload_n hx hb dX7_worthAt_88 rfl (lv_at hl 5 rfl) ?_
                  refine lv_imul hx hb dX7_worthAt_89 ?_
                  refine lv_topi (fun x_4634 ex_4634 => ?_)
                  have hG := hG.trans (lt_eq ex_4634)
                  have vx_4634 : x_4634.toInt = 4 * p0.toInt := by have q := ti_mul ex_4634 kc_4 rfl (by omega) (by omega); omega
                  refine lv_iload hx hb dX7_worthAt_90 (lv_at hl 0 rfl) ?_
                  refine lv_iadd hx hb dX7_worthAt_92 ?_
                  refine lv_topi (fun x_4635 ex_4635 => ?_)
                  have hG := hG.trans (lt_eq ex_4635)
                  have vx_4635 : x_4635.toInt = 4 * p0.toInt + z_4627.toInt := by have q := ti_add ex_4635 vx_4634 rfl (by omega) (by omega); omega
                  refine va_iald hx hb hK hP 3 2 rfl rfl (ti_in vx_4635 (by omega) (by omega)) dX7_worthAt_93 ?_
                  refine lv_topi (fun x_4636 ex_4636 => ?_)
                  have hG := hG.trans (lt_eq ex_4636)
                  have kx_4636 : (fQ x_4635.toNatClampNeg).toInt = x_4636.toInt := by rw [ex_4636]
                  have cx_4636 : (fQ (4 * p0.toNatClampNeg + z_4627.toNatClampNeg)).toInt = x_4636.toInt := by rw [show 4 * p0.toNatClampNeg + z_4627.toNatClampNeg = x_4635.toNatClampNeg from by have q9 := ti_cl (x := x_4635) vx_4635 (by omega); have q_p0 := ti_cl (x := p0) rfl (by omega); have q_z_4627 := ti_cl (x := z_4627) rfl (by omega); omega]; exact kx_4636
                  have wx_4636 := r_Q.lt p0.toNatClampNeg (z_4627.toNatClampNeg) (by have q_1 := ti_cl (x := p0) rfl (by omega); have q_2 := ti_cl (x := z_4627) rfl (by omega); omega) (by have q_1 := ti_cl (x := p0) rfl (by omega); have q_2 := ti_cl (x := z_4627) rfl (by omega); omega)
                  have wx_4636 : 0 ≤ x_4636.toInt ∧ x_4636.toInt < p0.toInt := by have q_1 := ti_cl (x := p0) rfl (by omega); have q_2 := ti_cl (x := z_4627) rfl (by omega); have q_3 := cx_4636; rw [show 4 * p0.toNatClampNeg + (z_4627.toNatClampNeg) = 4 * p0.toNatClampNeg + z_4627.toNatClampNeg from by omega] at wx_4636; omega
                  refine lv_istore (lv' := [(7, .int x_4636), (6, .int z_4627), (5, .int z_4628), (4, .int x_4599), (0, .ref oM), (1, .ref rQ), (2, .int p0), (3, .int p1)]) hx hb dX7_worthAt_94 hl (by decide) rfl (fun ls hl => ?_)
                  refine lv_aload_n hx hb dX7_worthAt_96 rfl (lv_at hl 4 rfl) ?_
                  refine lv_aload_n hx hb dX7_worthAt_97 rfl (lv_at hl 5 rfl) ?_
                  refine lv_iload hx hb dX7_worthAt_98 (lv_at hl 0 rfl) ?_
                  refine lv_iload_n hx hb dX7_worthAt_100 rfl (lv_at hl 7 rfl) ?_
                  refine lv_iconst (v := 1) hx hb dX7_worthAt_101 (by decide) ?_
                  refine lv_iadd hx hb dX7_worthAt_102 ?_
                  refine lv_topi (fun x_4637 ex_4637 => ?_)
                  have hG := hG.trans (lt_eq ex_4637)
                  have vx_4637 : x_4637.toInt = p1.toInt + 1 := by have q := ti_add ex_4637 rfl kc_1 (by omega) (by omega); omega
                  have hFc := va_free (wc := [(oc7 oM iM_thrown rM_tape iM_taped iM_size iM_at iM_end iM_token iM_whole iM_nameSize iM_fault iM_place iM_trouble rM_letters iM_failed iM_hasCourt rM_r rM_fresh rM_told rM_read rM_st rM_undone rM_kept iM_undos iM_images rM_fresher iM_fresherSize iM_scale iM_night rM_heardRow rM_cutRow iM_breaths iM_cutMany iM_allBreaths rM_trial rM_words iM_fewestBreaths iM_orderMany iM_orderSum iM_leastOrder rM_often iM_setMany iM_someOf iM_allOf iM_allWeight iM_enoughWeight iM_worthSum iM_firstRest iM_leastDrawn), (arI rM_r kM_r 287 fM_r), (arI rM_told kM_told 90 fM_told), (arI rQ kQ 90 fQ)]) hD hS hA [0, 1, 2, 3] rfl
                  refine va_calli (va_runV (As := [.ref rQ, .int x_4636, .int x_4637]) (rest := []) ⟨hx, hb, hml, hown, hts⟩ (ih9 _ oM iM_thrown rM_tape iM_taped iM_size iM_at iM_end iM_token iM_whole iM_nameSize iM_fault iM_place iM_trouble rM_letters iM_failed iM_hasCourt rM_r fM_r kM_r rM_fresh rM_told fM_told kM_told rM_read rM_st rM_undone rM_kept iM_undos iM_images rM_fresher iM_fresherSize iM_scale iM_night rM_heardRow rM_cutRow iM_breaths iM_cutMany iM_allBreaths rM_trial rM_words iM_fewestBreaths iM_orderMany iM_orderSum iM_leastOrder rM_often iM_setMany iM_someOf iM_allOf iM_allWeight iM_enoughWeight iM_worthSum iM_firstRest iM_leastDrawn rQ fQ kQ x_4636 x_4637 (by first | omega | decide) (by first | omega | decide) (by first | omega | decide) (by first | omega | decide) (by first | omega | decide) (by first | omega | decide) (by first | omega | decide) (by first | omega | decide) (by first | omega | decide) (by first | omega | decide) (by assumption) (by assumption) (by assumption) (by assumption) (by first | omega | decide | assumption | (have q0 := kc_0; have q1 := kc_1; omega) | (intro h; exact absurd h (by decide))) (by first | omega | decide | assumption | (have q0 := kc_0; have q1 := kc_1; omega) | (intro h; exact absurd h (by decide))) (by first | omega | decide | assumption | (have q0 := kc_0; have q1 := kc_1; omega) | (intro h; exact absurd h (by decide))) (by first | omega | decide | assumption | (have q0 := kc_0; have q1 := kc_1; omega) | (intro h; exact absurd h (by decide)))) (cwV 3 hts (wd_V wd_649 wd_650 wd_651 wd_5 (wd_c wd_652)) rfl rfl rfl (by decide +kernel) ⟨(show (1 + n9) + 1 ≤ 1 + (n9 + 1) by omega), (show 8 + (9 + 11) + (10 + 28 * n9) ≤ 10 + 28 * (n9 + 1) by omega)⟩) ⟨Pw.fb, va_recv hK hP (ci := 7) (q0 := 0) rfl rfl, fun U hU hW => Pw.to (hP.sub [0, 1, 2, 3] rfl) (hD.sub [0, 1, 2, 3] (by decide) rfl) (hK.sub [0, 1, 2] rfl) hE hS hFc hU hW⟩ rfl rfl hl.1 rfl (lv_room (Nat.le_of_ble_eq_true rfl)) dX7_worthAt_103 ⟨Nat.le_of_ble_eq_true rfl, Nat.le_of_ble_eq_true rfl⟩) hS (fun q _ h => hFc q h) hFc (fun r u t H locs ht hvm hw hB hz1 hk1 hS => ?_)
                  have hru9 := hw.2
                  have hw := hw.1
                  obtain ⟨hP, hD, hK⟩ := Bw.go (ws' := [(oc7 oM iM_thrown rM_tape iM_taped iM_size iM_at iM_end iM_token iM_whole iM_nameSize iM_fault iM_place iM_trouble rM_letters iM_failed iM_hasCourt rM_r rM_fresh rM_told rM_read rM_st rM_undone rM_kept iM_undos iM_images rM_fresher iM_fresherSize iM_scale iM_night rM_heardRow rM_cutRow iM_breaths iM_cutMany iM_allBreaths rM_trial rM_words iM_fewestBreaths iM_orderMany iM_orderSum iM_leastOrder rM_often iM_setMany iM_someOf iM_allOf iM_allWeight iM_enoughWeight iM_worthSum iM_firstRest iM_leastDrawn), (arI rM_r kM_r 287 fM_r), (arI rM_told kM_told 90 fM_told), (arI rQ kQ 90 fQ)]) (tys' := [(kM_r, .int), (kM_told, .int), (kQ, .int)]) hB rfl ht hvm hP hD hK [0, 1, 2, 3] [] rfl (by decide) (by decide) [] hk1 hFc rfl rfl rfl
                  clear hz1 hk1 hvm ht hB
                  obtain ⟨x_4638, rfl⟩ : ∃ z, z = r := ⟨_, rfl⟩
                  have hG := hG.trans (lt_eq hru9.symm)
                  have lx_4638 := hw.2
                  refine lv_istore (lv' := [(8, .int x_4638), (7, .int x_4636), (6, .int z_4627), (5, .int z_4628), (4, .int x_4599), (0, .ref oM), (1, .ref rQ), (2, .int p0), (3, .int p1)]) hx hb dX7_worthAt_106 hl (by decide) rfl (fun ls hl => ?_)
                  refine lv_iload hx hb dX7_worthAt_108 (lv_at hl 4 rfl) ?_
                  refine lv_iconst (v := 1) hx hb dX7_worthAt_110 (by decide) ?_
                  refine lv_icmp_ne (tgt := 133) hx hb dX7_worthAt_111 (by decide) (fun c_4639 => ?_) (fun c_4639 => ?_)
                  · skip
                    have hG := hG.trans (if_neg c_4639)
                    have gc_4639 := ti_ne c_4639 rfl kc_1
                    exfalso; clear hG; omega
                  · skip
                    have hG := hG.trans (if_pos c_4639)
                    have gc_4639 := ti_eq c_4639 rfl kc_1
                    refine lv_iload hx hb dX7_worthAt_114 (lv_at hl 0 rfl) ?_
                    refine lv_iload hx hb dX7_worthAt_116 (lv_at hl 3 rfl) ?_
                    refine lv_icmp_le (tgt := 126) hx hb dX7_worthAt_118 (by decide) (fun c_4640 => ?_) (fun c_4640 => ?_)
                    · skip
                      have hG := hG.trans (if_pos c_4640)
                      have gc_4640 := ti_le c_4640 rfl rfl
                      refine lv_iload hx hb dX7_worthAt_126 (lv_at hl 3 rfl) ?_
                      refine lv_istore (lv' := [(5, .int z_4628), (8, .int x_4638), (7, .int x_4636), (6, .int z_4627), (4, .int x_4599), (0, .ref oM), (1, .ref rQ), (2, .int p0), (3, .int p1)]) hx hb dX7_worthAt_128 hl (by decide) rfl (fun ls hl => ?_)
                      refine lv_goto (tgt := 173) hx hb dX7_worthAt_130 (by decide) ?_
                      obtain ⟨x_4641, ex_4641⟩ : ∃ z : Int32, z = z_4627 + Int32.ofInt 1 := ⟨_, rfl⟩
                      have hG := hG.trans (lt_eq ex_4641)
                      have vx_4641 : x_4641.toInt = z_4627.toInt + 1 := by have q := ti_add (y := 1) ex_4641 rfl kc_1 (by omega) (by omega); omega
                      refine lv_iinc (v := x_4641) (lv' := [(6, .int x_4641), (5, .int z_4628), (8, .int x_4638), (7, .int x_4636), (4, .int x_4599), (0, .ref oM), (1, .ref rQ), (2, .int p0), (3, .int p1)]) hx hb dX7_worthAt_173 hl (k := 3) rfl ex_4641.symm (by decide) rfl (fun ls hl => ?_)
                      refine lv_goto (tgt := 72) hx hb dX7_worthAt_176 (by decide) ?_
                      exact ih_n_4629 x_4641 z_4628 _ _ _  (by first | omega | decide | assumption) (fold_step (v := x_4638) (part := x_4636) hi1_n_4629 (by have q := cx_4636; rw [show 4 * p0.toNatClampNeg + z_4627.toNatClampNeg = 4 * p0.toNatClampNeg + z_4627.toNatClampNeg from by omega]; exact q) lx_4638 (by first | exact step_k0 (by omega) (by omega) | exact step_q0 (by omega) (by omega)) (by have q1 := ti_cl (x := x_4641) vx_4641 (by omega); have q2 := ti_cl (x := z_4627) rfl (by omega); omega)) (by omega) hG (hP.sub [0, 1, 2, 3] rfl) (hD.sub [0, 1, 2, 3] (by decide) rfl) hS (lv_sub hl [0, 1, 4, 5, 6, 7, 8] rfl)
                    · skip
                      have hG := hG.trans (if_neg c_4640)
                      have gc_4640 := ti_nle c_4640 rfl rfl
                      refine lv_iload hx hb dX7_worthAt_121 (lv_at hl 0 rfl) ?_
                      refine lv_goto (tgt := 128) hx hb dX7_worthAt_123 (by decide) ?_
                      refine lv_istore (lv' := [(5, .int x_4638), (8, .int x_4638), (7, .int x_4636), (6, .int z_4627), (4, .int x_4599), (0, .ref oM), (1, .ref rQ), (2, .int p0), (3, .int p1)]) hx hb dX7_worthAt_128 hl (by decide) rfl (fun ls hl => ?_)
                      refine lv_goto (tgt := 173) hx hb dX7_worthAt_130 (by decide) ?_
                      obtain ⟨x_4642, ex_4642⟩ : ∃ z : Int32, z = z_4627 + Int32.ofInt 1 := ⟨_, rfl⟩
                      have hG := hG.trans (lt_eq ex_4642)
                      have vx_4642 : x_4642.toInt = z_4627.toInt + 1 := by have q := ti_add (y := 1) ex_4642 rfl kc_1 (by omega) (by omega); omega
                      refine lv_iinc (v := x_4642) (lv' := [(6, .int x_4642), (5, .int x_4638), (8, .int x_4638), (7, .int x_4636), (4, .int x_4599), (0, .ref oM), (1, .ref rQ), (2, .int p0), (3, .int p1)]) hx hb dX7_worthAt_173 hl (k := 3) rfl ex_4642.symm (by decide) rfl (fun ls hl => ?_)
                      refine lv_goto (tgt := 72) hx hb dX7_worthAt_176 (by decide) ?_
                      exact ih_n_4629 x_4642 x_4638 _ _ _  (by first | omega | decide | assumption) (fold_step (v := x_4638) (part := x_4636) hi1_n_4629 (by have q := cx_4636; rw [show 4 * p0.toNatClampNeg + z_4627.toNatClampNeg = 4 * p0.toNatClampNeg + z_4627.toNatClampNeg from by omega]; exact q) lx_4638 (by first | exact step_k1 (by omega) (by omega) | exact step_q1 (by omega) (by omega)) (by have q1 := ti_cl (x := x_4642) vx_4642 (by omega); have q2 := ti_cl (x := z_4627) rfl (by omega); omega)) (by omega) hG (hP.sub [0, 1, 2, 3] rfl) (hD.sub [0, 1, 2, 3] (by decide) rfl) hS (lv_sub hl [0, 1, 4, 5, 6, 7, 8] rfl)
            exact key_n_4629 (((4 - (0 : Int32).toInt).toNat) + 1) 0 (-100000000) _ _ _  (by first | omega | decide | assumption | (have q0 := kc_m100000000; have q1 := kc_0; have q2 := kc_1; omega) | (show _ = startV _; rw [show (fM_r (9 + p0.toNatClampNeg)).toInt = 1 from by omega]; rfl) | (show _ = startV _; rw [show (fM_r (9 + p0.toNatClampNeg)).toInt = 2 from by omega]; rfl) | (show _ = startV _; rw [show (fM_r (9 + p0.toNatClampNeg)).toInt = 3 from by omega]; rfl)) (by first | omega | decide | assumption | (have q0 := kc_m100000000; have q1 := kc_0; have q2 := kc_1; omega) | (show _ = startV _; rw [show (fM_r (9 + p0.toNatClampNeg)).toInt = 1 from by omega]; rfl) | (show _ = startV _; rw [show (fM_r (9 + p0.toNatClampNeg)).toInt = 2 from by omega]; rfl) | (show _ = startV _; rw [show (fM_r (9 + p0.toNatClampNeg)).toInt = 3 from by omega]; rfl)) (by omega) hG hP hD hS hl
        · skip
          have hG := hG.trans (if_pos c_4602)
          have gc_4602 := ti_eq c_4602 rfl kc_2
          refine lv_ldc hx hb hown (hts _ wd_653) dX7_worthAt_50 ?_
          refine lv_goto (tgt := 67) hx hb dX7_worthAt_52 (by decide) ?_
          refine lv_istore (lv' := [(5, .int 100000000), (4, .int x_4599), (0, .ref oM), (1, .ref rQ), (2, .int p0), (3, .int p1)]) hx hb dX7_worthAt_67 hl (by decide) rfl (fun ls hl => ?_)
          refine lv_iconst (v := 0) hx hb dX7_worthAt_69 (by decide) ?_
          refine lv_istore (lv' := [(6, .int 0), (5, .int 100000000), (4, .int x_4599), (0, .ref oM), (1, .ref rQ), (2, .int p0), (3, .int p1)]) hx hb dX7_worthAt_70 hl (by decide) rfl (fun ls hl => ?_)
          have hl := lv_sub hl (l' := [(6, .int 0), (5, .int 100000000), (4, .int x_4599), (0, .ref oM), (1, .ref rQ), (2, .int p0), (3, .int p1)]) [0, 1, 2, 3, 4, 5, 6] rfl
          have key_n_4645 : ∀ (n_4645 : Nat) (z_4643 : Int32) (z_4644 : Int32) (H : Heap) (locs : List Loc) (ls : Array Slot), (0 ≤ z_4643.toInt ∧ z_4643.toInt ≤ (fM_r (27 + p0.toNatClampNeg)).toInt) → (z_4644 = foldV (fM_r (9 + p0.toNatClampNeg)).toInt (startV (fM_r (9 + p0.toNatClampNeg)).toInt) (VF fM_r fM_told fQ iM_scale n9 p0.toNatClampNeg) (WF fM_r fM_told fQ p0.toNatClampNeg) z_4643.toNatClampNeg) → (4 - z_4643.toInt).toNat < n_4645 → (PX7_worthAt (n9 + 1) iM_night fM_r fM_told iM_scale fQ p0 p1 = HX7_worthAt_0 (PX7_worthAt n9) fM_r fM_told iM_scale iM_night fQ p0 p1 x_4599 n_4645 z_4643 z_4644) → va_P (dC, dI) vwCl [(oc7 oM iM_thrown rM_tape iM_taped iM_size iM_at iM_end iM_token iM_whole iM_nameSize iM_fault iM_place iM_trouble rM_letters iM_failed iM_hasCourt rM_r rM_fresh rM_told rM_read rM_st rM_undone rM_kept iM_undos iM_images rM_fresher iM_fresherSize iM_scale iM_night rM_heardRow rM_cutRow iM_breaths iM_cutMany iM_allBreaths rM_trial rM_words iM_fewestBreaths iM_orderMany iM_orderSum iM_leastOrder rM_often iM_setMany iM_someOf iM_allOf iM_allWeight iM_enoughWeight iM_worthSum iM_firstRest iM_leastDrawn), (arI rM_r kM_r 287 fM_r), (arI rM_told kM_told 90 fM_told), (arI rQ kQ 90 fQ)] H → va_D A [(oc7 oM iM_thrown rM_tape iM_taped iM_size iM_at iM_end iM_token iM_whole iM_nameSize iM_fault iM_place iM_trouble rM_letters iM_failed iM_hasCourt rM_r rM_fresh rM_told rM_read rM_st rM_undone rM_kept iM_undos iM_images rM_fresher iM_fresherSize iM_scale iM_night rM_heardRow rM_cutRow iM_breaths iM_cutMany iM_allBreaths rM_trial rM_words iM_fewestBreaths iM_orderMany iM_orderSum iM_leastOrder rM_often iM_setMany iM_someOf iM_allOf iM_allWeight iM_enoughWeight iM_worthSum iM_firstRest iM_leastDrawn), (arI rM_r kM_r 287 fM_r), (arI rM_told kM_told 90 fM_told), (arI rQ kQ 90 fQ)] → va_S A s.heap H locs → lv_has ls 9 [(6, .int z_4643), (5, .int z_4644), (4, .int x_4599), (0, .ref oM), (1, .ref rQ), (2, .int p0), (3, .int p1)] → W p l e (headSpec (Cond.code yX7_worthAt cX7_worthAt 9 (some .int) :: wG) ({ frames := 1 + (n9 + 1), cells := 0, slots := 0, locals := 10 + 28 * (n9 + 1) })).room s m ([.ref oM, .ref rQ, .int p0, .int p1] : List Value).toArray below meth c H locs 0 0 (MQ below (va_Qi (fun (r : Int32) (_ : Nat) => (True ∧ (r = rval fM_r fM_told fQ iM_scale (n9 + 1) p0.toNatClampNeg)) ∧ PX7_worthAt (n9 + 1) iM_night fM_r fM_told iM_scale fQ p0 p1 = r) (fun (_ : Nat) (t : State) => Bw dC dI A [(oc7 oM iM_thrown rM_tape iM_taped iM_size iM_at iM_end iM_token iM_whole iM_nameSize iM_fault iM_place iM_trouble rM_letters iM_failed iM_hasCourt rM_r rM_fresh rM_told rM_read rM_st rM_undone rM_kept iM_undos iM_images rM_fresher iM_fresherSize iM_scale iM_night rM_heardRow rM_cutRow iM_breaths iM_cutMany iM_allBreaths rM_trial rM_words iM_fewestBreaths iM_orderMany iM_orderSum iM_leastOrder rM_often iM_setMany iM_someOf iM_allOf iM_allWeight iM_enoughWeight iM_worthSum iM_firstRest iM_leastDrawn), (arI rM_r kM_r 287 fM_r), (arI rM_told kM_told 90 fM_told), (arI rQ kQ 90 fQ)] [(kM_r, .int), (kM_told, .int), (kQ, .int)] t) A) ([.ref oM, .ref rQ, .int p0, .int p1] : List Value).toArray s 0 0 A) (F0 m 72 ls []) := by
            intro n_4645
            induction n_4645 with
            | zero => intro z_4643 z_4644 H locs ls hi0_n_4645 hi1_n_4645 hm; exact absurd hm (by omega)
            | succ n_4645 ih_n_4645 =>
              intro z_4643 z_4644 H locs ls hi0_n_4645 hi1_n_4645 hm hG hP hD hS hl
              have hG := hG.trans (HX7_worthAt_0_eq _ _ _ _ _ _ _ _ _ _ _ _)
              refine lv_iload hx hb dX7_worthAt_72 (lv_at hl 0 rfl) ?_
              refine lv_aload_n hx hb dX7_worthAt_74 rfl (lv_at hl 3 rfl) ?_
              refine va_get (D := (dC, dI)) (ci := 7) (v := .ref rM_r) (C := RX7) (T := TX7) (N := 48) hx hb hts inX7 hown hK hP 0 rfl rfl 15 (by decide) (hts _ wd_155) (fun _ h9 => h9) rfl dX7_worthAt_75 ?_
              refine lv_bipush (v := 27) hx hb dX7_worthAt_78 (by decide) ?_
              refine lv_iload_n hx hb dX7_worthAt_80 rfl (lv_at hl 5 rfl) ?_
              refine lv_iadd hx hb dX7_worthAt_81 ?_
              refine lv_topi (fun x_4646 ex_4646 => ?_)
              have hG := hG.trans (lt_eq ex_4646)
              have vx_4646 : x_4646.toInt = p0.toInt + 27 := by have q := ti_add ex_4646 kc_27 rfl (by omega) (by omega); omega
              refine va_iald hx hb hK hP 1 0 rfl rfl (ti_in vx_4646 (by omega) (by omega)) dX7_worthAt_82 ?_
              refine lv_topi (fun x_4647 ex_4647 => ?_)
              have hG := hG.trans (lt_eq ex_4647)
              have kx_4647 : (fM_r x_4646.toNatClampNeg).toInt = x_4647.toInt := by rw [ex_4647]
              have cx_4647 : (fM_r (27 + p0.toNatClampNeg)).toInt = x_4647.toInt := by rw [show 27 + p0.toNatClampNeg = x_4646.toNatClampNeg from by have q9 := ti_cl (x := x_4646) vx_4646 (by omega); have q_p0 := ti_cl (x := p0) rfl (by omega); omega]; exact kx_4647
              have sx_4647 := r_R.many x_4646.toNatClampNeg (by have q9 := ti_cl (x := x_4646) vx_4646 (by omega); omega) (by have q9 := ti_cl (x := x_4646) vx_4646 (by omega); omega)
              refine lv_icmp_ge (tgt := 179) hx hb dX7_worthAt_83 (by decide) (fun c_4648 => ?_) (fun c_4648 => ?_)
              · skip
                have hG := hG.trans (if_pos c_4648)
                have gc_4648 := ti_le c_4648 rfl rfl
                refine lv_iload hx hb dX7_worthAt_179 (lv_at hl 2 rfl) ?_
                refine lv_iconst (v := 3) hx hb dX7_worthAt_181 (by decide) ?_
                refine lv_icmp_ne (tgt := 196) hx hb dX7_worthAt_182 (by decide) (fun c_4649 => ?_) (fun c_4649 => ?_)
                · skip
                  have hG := hG.trans (if_neg c_4649)
                  have gc_4649 := ti_ne c_4649 rfl kc_3
                  refine lv_iload hx hb dX7_worthAt_196 (lv_at hl 1 rfl) ?_
                  exact W.iret hx hb hr (fun t ht hW => ⟨⟨_, 0, rfl, ⟨⟨trivial, (rval_fold (by omega) (by omega) hi1_n_4645 (by have q1 := ti_cl (x := z_4643) rfl (by omega); omega))⟩, hG⟩, Bw.to (hP.sub [0, 1, 2, 3] rfl) (hD.sub [0, 1, 2, 3] (by decide) rfl) (hK.sub [0, 1, 2] rfl) ht hW⟩, hS.F ht⟩) hS.2.2 dX7_worthAt_198
                · skip
                  have hG := hG.trans (if_pos c_4649)
                  have gc_4649 := ti_eq c_4649 rfl kc_3
                  exfalso; clear hG; omega
              · skip
                have hG := hG.trans (if_neg c_4648)
                have gc_4648 := ti_nle c_4648 rfl rfl
                refine lv_aload_n hx hb dX7_worthAt_86 rfl (lv_at hl 4 rfl) ?_
                refine lv_iconst (v := 4) hx hb dX7_worthAt_87 (by decide) ?_
                refine lv_iload_n hx hb dX7_worthAt_88 rfl (lv_at hl 5 rfl) ?_
                refine lv_imul hx hb dX7_worthAt_89 ?_
                refine lv_topi (fun x_4650 ex_4650 => ?_)
                have hG := hG.trans (lt_eq ex_4650)
                have vx_4650 : x_4650.toInt = 4 * p0.toInt := by have q := ti_mul ex_4650 kc_4 rfl (by omega) (by omega); omega
                refine lv_iload hx hb dX7_worthAt_90 (lv_at hl 0 rfl) ?_
                refine lv_iadd hx hb dX7_worthAt_92 ?_
                refine lv_topi (fun x_4651 ex_4651 => ?_)
                have hG := hG.trans (lt_eq ex_4651)
                have vx_4651 : x_4651.toInt = 4 * p0.toInt + z_4643.toInt := by have q := ti_add ex_4651 vx_4650 rfl (by omega) (by omega); omega
                refine va_iald hx hb hK hP 3 2 rfl rfl (ti_in vx_4651 (by omega) (by omega)) dX7_worthAt_93 ?_
                refine lv_topi (fun x_4652 ex_4652 => ?_)
                have hG := hG.trans (lt_eq ex_4652)
                have kx_4652 : (fQ x_4651.toNatClampNeg).toInt = x_4652.toInt := by rw [ex_4652]
                have cx_4652 : (fQ (4 * p0.toNatClampNeg + z_4643.toNatClampNeg)).toInt = x_4652.toInt := by rw [show 4 * p0.toNatClampNeg + z_4643.toNatClampNeg = x_4651.toNatClampNeg from by have q9 := ti_cl (x := x_4651) vx_4651 (by omega); have q_p0 := ti_cl (x := p0) rfl (by omega); have q_z_4643 := ti_cl (x := z_4643) rfl (by omega); omega]; exact kx_4652
                have wx_4652 := r_Q.lt p0.toNatClampNeg (z_4643.toNatClampNeg) (by have q_1 := ti_cl (x := p0) rfl (by omega); have q_2 := ti_cl (x := z_4643) rfl (by omega); omega) (by have q_1 := ti_cl (x := p0) rfl (by omega); have q_2 := ti_cl (x := z_4643) rfl (by omega); omega)
                have wx_4652 : 0 ≤ x_4652.toInt ∧ x_4652.toInt < p0.toInt := by have q_1 := ti_cl (x := p0) rfl (by omega); have q_2 := ti_cl (x := z_4643) rfl (by omega); have q_3 := cx_4652; rw [show 4 * p0.toNatClampNeg + (z_4643.toNatClampNeg) = 4 * p0.toNatClampNeg + z_4643.toNatClampNeg from by omega] at wx_4652; omega
                refine lv_istore (lv' := [(7, .int x_4652), (6, .int z_4643), (5, .int z_4644), (4, .int x_4599), (0, .ref oM), (1, .ref rQ), (2, .int p0), (3, .int p1)]) hx hb dX7_worthAt_94 hl (by decide) rfl (fun ls hl => ?_)
                refine lv_aload_n hx hb dX7_worthAt_96 rfl (lv_at hl 4 rfl) ?_
                refine lv_aload_n hx hb dX7_worthAt_97 rfl (lv_at hl 5 rfl) ?_
                refine lv_iload hx hb dX7_worthAt_98 (lv_at hl 0 rfl) ?_
                refine lv_iload_n hx hb dX7_worthAt_100 rfl (lv_at hl 7 rfl) ?_
                refine lv_iconst (v := 1) hx hb dX7_worthAt_101 (by decide) ?_
                refine lv_iadd hx hb dX7_worthAt_102 ?_
                refine lv_topi (fun x_4653 ex_4653 => ?_)
                have hG := hG.trans (lt_eq ex_4653)
                have vx_4653 : x_4653.toInt = p1.toInt + 1 := by have q := ti_add ex_4653 rfl kc_1 (by omega) (by omega); omega
                have hFc := va_free (wc := [(oc7 oM iM_thrown rM_tape iM_taped iM_size iM_at iM_end iM_token iM_whole iM_nameSize iM_fault iM_place iM_trouble rM_letters iM_failed iM_hasCourt rM_r rM_fresh rM_told rM_read rM_st rM_undone rM_kept iM_undos iM_images rM_fresher iM_fresherSize iM_scale iM_night rM_heardRow rM_cutRow iM_breaths iM_cutMany iM_allBreaths rM_trial rM_words iM_fewestBreaths iM_orderMany iM_orderSum iM_leastOrder rM_often iM_setMany iM_someOf iM_allOf iM_allWeight iM_enoughWeight iM_worthSum iM_firstRest iM_leastDrawn), (arI rM_r kM_r 287 fM_r), (arI rM_told kM_told 90 fM_told), (arI rQ kQ 90 fQ)]) hD hS hA [0, 1, 2, 3] rfl
                refine va_calli (va_runV (As := [.ref rQ, .int x_4652, .int x_4653]) (rest := []) ⟨hx, hb, hml, hown, hts⟩ (ih9 _ oM iM_thrown rM_tape iM_taped iM_size iM_at iM_end iM_token iM_whole iM_nameSize iM_fault iM_place iM_trouble rM_letters iM_failed iM_hasCourt rM_r fM_r kM_r rM_fresh rM_told fM_told kM_told rM_read rM_st rM_undone rM_kept iM_undos iM_images rM_fresher iM_fresherSize iM_scale iM_night rM_heardRow rM_cutRow iM_breaths iM_cutMany iM_allBreaths rM_trial rM_words iM_fewestBreaths iM_orderMany iM_orderSum iM_leastOrder rM_often iM_setMany iM_someOf iM_allOf iM_allWeight iM_enoughWeight iM_worthSum iM_firstRest iM_leastDrawn rQ fQ kQ x_4652 x_4653 (by first | omega | decide) (by first | omega | decide) (by first | omega | decide) (by first | omega | decide) (by first | omega | decide) (by first | omega | decide) (by first | omega | decide) (by first | omega | decide) (by first | omega | decide) (by first | omega | decide) (by assumption) (by assumption) (by assumption) (by assumption) (by first | omega | decide | assumption | (have q0 := kc_0; have q1 := kc_1; omega) | (intro h; exact absurd h (by decide))) (by first | omega | decide | assumption | (have q0 := kc_0; have q1 := kc_1; omega) | (intro h; exact absurd h (by decide))) (by first | omega | decide | assumption | (have q0 := kc_0; have q1 := kc_1; omega) | (intro h; exact absurd h (by decide))) (by first | omega | decide | assumption | (have q0 := kc_0; have q1 := kc_1; omega) | (intro h; exact absurd h (by decide)))) (cwV 3 hts (wd_V wd_649 wd_650 wd_651 wd_5 (wd_c wd_652)) rfl rfl rfl (by decide +kernel) ⟨(show (1 + n9) + 1 ≤ 1 + (n9 + 1) by omega), (show 8 + (9 + 11) + (10 + 28 * n9) ≤ 10 + 28 * (n9 + 1) by omega)⟩) ⟨Pw.fb, va_recv hK hP (ci := 7) (q0 := 0) rfl rfl, fun U hU hW => Pw.to (hP.sub [0, 1, 2, 3] rfl) (hD.sub [0, 1, 2, 3] (by decide) rfl) (hK.sub [0, 1, 2] rfl) hE hS hFc hU hW⟩ rfl rfl hl.1 rfl (lv_room (Nat.le_of_ble_eq_true rfl)) dX7_worthAt_103 ⟨Nat.le_of_ble_eq_true rfl, Nat.le_of_ble_eq_true rfl⟩) hS (fun q _ h => hFc q h) hFc (fun r u t H locs ht hvm hw hB hz1 hk1 hS => ?_)
                have hru9 := hw.2
                have hw := hw.1
                obtain ⟨hP, hD, hK⟩ := Bw.go (ws' := [(oc7 oM iM_thrown rM_tape iM_taped iM_size iM_at iM_end iM_token iM_whole iM_nameSize iM_fault iM_place iM_trouble rM_letters iM_failed iM_hasCourt rM_r rM_fresh rM_told rM_read rM_st rM_undone rM_kept iM_undos iM_images rM_fresher iM_fresherSize iM_scale iM_night rM_heardRow rM_cutRow iM_breaths iM_cutMany iM_allBreaths rM_trial rM_words iM_fewestBreaths iM_orderMany iM_orderSum iM_leastOrder rM_often iM_setMany iM_someOf iM_allOf iM_allWeight iM_enoughWeight iM_worthSum iM_firstRest iM_leastDrawn), (arI rM_r kM_r 287 fM_r), (arI rM_told kM_told 90 fM_told), (arI rQ kQ 90 fQ)]) (tys' := [(kM_r, .int), (kM_told, .int), (kQ, .int)]) hB rfl ht hvm hP hD hK [0, 1, 2, 3] [] rfl (by decide) (by decide) [] hk1 hFc rfl rfl rfl
                clear hz1 hk1 hvm ht hB
                obtain ⟨x_4654, rfl⟩ : ∃ z, z = r := ⟨_, rfl⟩
                have hG := hG.trans (lt_eq hru9.symm)
                have lx_4654 := hw.2
                refine lv_istore (lv' := [(8, .int x_4654), (7, .int x_4652), (6, .int z_4643), (5, .int z_4644), (4, .int x_4599), (0, .ref oM), (1, .ref rQ), (2, .int p0), (3, .int p1)]) hx hb dX7_worthAt_106 hl (by decide) rfl (fun ls hl => ?_)
                refine lv_iload hx hb dX7_worthAt_108 (lv_at hl 4 rfl) ?_
                refine lv_iconst (v := 1) hx hb dX7_worthAt_110 (by decide) ?_
                refine lv_icmp_ne (tgt := 133) hx hb dX7_worthAt_111 (by decide) (fun c_4655 => ?_) (fun c_4655 => ?_)
                · skip
                  have hG := hG.trans (if_neg c_4655)
                  have gc_4655 := ti_ne c_4655 rfl kc_1
                  refine lv_iload hx hb dX7_worthAt_133 (lv_at hl 4 rfl) ?_
                  refine lv_iconst (v := 2) hx hb dX7_worthAt_135 (by decide) ?_
                  refine lv_icmp_ne (tgt := 158) hx hb dX7_worthAt_136 (by decide) (fun c_4656 => ?_) (fun c_4656 => ?_)
                  · skip
                    have hG := hG.trans (if_neg c_4656)
                    have gc_4656 := ti_ne c_4656 rfl kc_2
                    exfalso; clear hG; omega
                  · skip
                    have hG := hG.trans (if_pos c_4656)
                    have gc_4656 := ti_eq c_4656 rfl kc_2
                    refine lv_iload hx hb dX7_worthAt_139 (lv_at hl 0 rfl) ?_
                    refine lv_iload hx hb dX7_worthAt_141 (lv_at hl 3 rfl) ?_
                    refine lv_icmp_ge (tgt := 151) hx hb dX7_worthAt_143 (by decide) (fun c_4657 => ?_) (fun c_4657 => ?_)
                    · skip
                      have hG := hG.trans (if_pos c_4657)
                      have gc_4657 := ti_le c_4657 rfl rfl
                      refine lv_iload hx hb dX7_worthAt_151 (lv_at hl 3 rfl) ?_
                      refine lv_istore (lv' := [(5, .int z_4644), (8, .int x_4654), (7, .int x_4652), (6, .int z_4643), (4, .int x_4599), (0, .ref oM), (1, .ref rQ), (2, .int p0), (3, .int p1)]) hx hb dX7_worthAt_153 hl (by decide) rfl (fun ls hl => ?_)
                      refine lv_goto (tgt := 173) hx hb dX7_worthAt_155 (by decide) ?_
                      obtain ⟨x_4658, ex_4658⟩ : ∃ z : Int32, z = z_4643 + Int32.ofInt 1 := ⟨_, rfl⟩
                      have hG := hG.trans (lt_eq ex_4658)
                      have vx_4658 : x_4658.toInt = z_4643.toInt + 1 := by have q := ti_add (y := 1) ex_4658 rfl kc_1 (by omega) (by omega); omega
                      refine lv_iinc (v := x_4658) (lv' := [(6, .int x_4658), (5, .int z_4644), (8, .int x_4654), (7, .int x_4652), (4, .int x_4599), (0, .ref oM), (1, .ref rQ), (2, .int p0), (3, .int p1)]) hx hb dX7_worthAt_173 hl (k := 3) rfl ex_4658.symm (by decide) rfl (fun ls hl => ?_)
                      refine lv_goto (tgt := 72) hx hb dX7_worthAt_176 (by decide) ?_
                      exact ih_n_4645 x_4658 z_4644 _ _ _  (by first | omega | decide | assumption) (fold_step (v := x_4654) (part := x_4652) hi1_n_4645 (by have q := cx_4652; rw [show 4 * p0.toNatClampNeg + z_4643.toNatClampNeg = 4 * p0.toNatClampNeg + z_4643.toNatClampNeg from by omega]; exact q) lx_4654 (by first | exact step_k0 (by omega) (by omega) | exact step_q0 (by omega) (by omega)) (by have q1 := ti_cl (x := x_4658) vx_4658 (by omega); have q2 := ti_cl (x := z_4643) rfl (by omega); omega)) (by omega) hG (hP.sub [0, 1, 2, 3] rfl) (hD.sub [0, 1, 2, 3] (by decide) rfl) hS (lv_sub hl [0, 1, 4, 5, 6, 7, 8] rfl)
                    · skip
                      have hG := hG.trans (if_neg c_4657)
                      have gc_4657 := ti_nle c_4657 rfl rfl
                      refine lv_iload hx hb dX7_worthAt_146 (lv_at hl 0 rfl) ?_
                      refine lv_goto (tgt := 153) hx hb dX7_worthAt_148 (by decide) ?_
                      refine lv_istore (lv' := [(5, .int x_4654), (8, .int x_4654), (7, .int x_4652), (6, .int z_4643), (4, .int x_4599), (0, .ref oM), (1, .ref rQ), (2, .int p0), (3, .int p1)]) hx hb dX7_worthAt_153 hl (by decide) rfl (fun ls hl => ?_)
                      refine lv_goto (tgt := 173) hx hb dX7_worthAt_155 (by decide) ?_
                      obtain ⟨x_4659, ex_4659⟩ : ∃ z : Int32, z = z_4643 + Int32.ofInt 1 := ⟨_, rfl⟩
                      have hG := hG.trans (lt_eq ex_4659)
                      have vx_4659 : x_4659.toInt = z_4643.toInt + 1 := by have q := ti_add (y := 1) ex_4659 rfl kc_1 (by omega) (by omega); omega
                      refine lv_iinc (v := x_4659) (lv' := [(6, .int x_4659), (5, .int x_4654), (8, .int x_4654), (7, .int x_4652), (4, .int x_4599), (0, .ref oM), (1, .ref rQ), (2, .int p0), (3, .int p1)]) hx hb dX7_worthAt_173 hl (k := 3) rfl ex_4659.symm (by decide) rfl (fun ls hl => ?_)
                      refine lv_goto (tgt := 72) hx hb dX7_worthAt_176 (by decide) ?_
                      exact ih_n_4645 x_4659 x_4654 _ _ _  (by first | omega | decide | assumption) (fold_step (v := x_4654) (part := x_4652) hi1_n_4645 (by have q := cx_4652; rw [show 4 * p0.toNatClampNeg + z_4643.toNatClampNeg = 4 * p0.toNatClampNeg + z_4643.toNatClampNeg from by omega]; exact q) lx_4654 (by first | exact step_k1 (by omega) (by omega) | exact step_q1 (by omega) (by omega)) (by have q1 := ti_cl (x := x_4659) vx_4659 (by omega); have q2 := ti_cl (x := z_4643) rfl (by omega); omega)) (by omega) hG (hP.sub [0, 1, 2, 3] rfl) (hD.sub [0, 1, 2, 3] (by decide) rfl) hS (lv_sub hl [0, 1, 4, 5, 6, 7, 8] rfl)
                · skip
                  have hG := hG.trans (if_pos c_4655)
                  have gc_4655 := ti_eq c_4655 rfl kc_1
                  exfalso; clear hG; omega
          exact key_n_4645 (((4 - (0 : Int32).toInt).toNat) + 1) 0 100000000 _ _ _  (by first | omega | decide | assumption | (have q0 := kc_0; have q1 := kc_1; have q2 := kc_100000000; omega) | (show _ = startV _; rw [show (fM_r (9 + p0.toNatClampNeg)).toInt = 1 from by omega]; rfl) | (show _ = startV _; rw [show (fM_r (9 + p0.toNatClampNeg)).toInt = 2 from by omega]; rfl) | (show _ = startV _; rw [show (fM_r (9 + p0.toNatClampNeg)).toInt = 3 from by omega]; rfl)) (by first | omega | decide | assumption | (have q0 := kc_0; have q1 := kc_1; have q2 := kc_100000000; omega) | (show _ = startV _; rw [show (fM_r (9 + p0.toNatClampNeg)).toInt = 1 from by omega]; rfl) | (show _ = startV _; rw [show (fM_r (9 + p0.toNatClampNeg)).toInt = 2 from by omega]; rfl) | (show _ = startV _; rw [show (fM_r (9 + p0.toNatClampNeg)).toInt = 3 from by omega]; rfl)) (by omega) hG hP hD hS hl
      · skip
        have hG := hG.trans (if_pos c_4601)
        have gc_4601 := ti_eq c_4601 rfl rfl
        exfalso; clear hG; omega
    · skip
      have hG := hG.trans (if_pos c_4600)
      have gc_4600 := ti_eq c_4600 rfl kc_0
      refine lv_aload_n hx hb dX7_worthAt_16 rfl (lv_at hl 2 rfl) ?_
      refine lv_bipush (v := 72) hx hb dX7_worthAt_17 (by decide) ?_
      refine lv_iload_n hx hb dX7_worthAt_19 rfl (lv_at hl 3 rfl) ?_
      refine lv_iadd hx hb dX7_worthAt_20 ?_
      refine lv_topi (fun x_4660 ex_4660 => ?_)
      have hG := hG.trans (lt_eq ex_4660)
      have vx_4660 : x_4660.toInt = p0.toInt + 72 := by have q := ti_add ex_4660 kc_72 rfl (by omega) (by omega); omega
      refine va_iald hx hb hK hP 3 2 rfl rfl (ti_in vx_4660 (by omega) (by omega)) dX7_worthAt_21 ?_
      refine lv_topi (fun x_4661 ex_4661 => ?_)
      have hG := hG.trans (lt_eq ex_4661)
      have kx_4661 : (fQ x_4660.toNatClampNeg).toInt = x_4661.toInt := by rw [ex_4661]
      have cx_4661 : (fQ (72 + p0.toNatClampNeg)).toInt = x_4661.toInt := by rw [show 72 + p0.toNatClampNeg = x_4660.toNatClampNeg from by have q9 := ti_cl (x := x_4660) vx_4660 (by omega); have q_p0 := ti_cl (x := p0) rfl (by omega); omega]; exact kx_4661
      refine lv_aload_n hx hb dX7_worthAt_22 rfl (lv_at hl 1 rfl) ?_
      refine va_get (D := (dC, dI)) (ci := 7) (v := .int iM_scale) (C := RX7) (T := TX7) (N := 48) hx hb hts inX7 hown hK hP 0 rfl rfl 26 (by decide) (hts _ wd_163) (fun _ h9 => h9) rfl dX7_worthAt_23 ?_
      refine lv_imul hx hb dX7_worthAt_26 ?_
      refine lv_topi (fun x_4662 ex_4662 => ?_)
      have hG := hG.trans (lt_eq ex_4662)
      exact W.iret hx hb hr (fun t ht hW => ⟨⟨_, 0, rfl, ⟨⟨trivial, (rval_word (z := x_4661) (by omega) (by have q := cx_4661; rw [show 72 + p0.toNatClampNeg = 72 + p0.toNatClampNeg from by omega]; exact q) ex_4662)⟩, hG⟩, Bw.to (hP.sub [0, 1, 2, 3] rfl) (hD.sub [0, 1, 2, 3] (by decide) rfl) (hK.sub [0, 1, 2] rfl) ht hW⟩, hS.F ht⟩) hS.2.2 dX7_worthAt_27
theorem tX7_worthAt_x (l : Launch) (dC : Nat → ClassId) (dI : Nat → Nat → Nat) (sz : Nat) (oM : Nat) (iM_thrown : Int32) (rM_tape : Nat) (iM_taped : Int32) (iM_size : Int32) (iM_at : Int32) (iM_end : Int32) (iM_token : Int32) (iM_whole : Int32) (iM_nameSize : Int32) (iM_fault : Int32) (iM_place : Int32) (iM_trouble : Int32) (rM_letters : Nat) (iM_failed : Int32) (iM_hasCourt : Int32) (rM_r : Nat) (fM_r : Nat → Int32) (kM_r : ClassId) (rM_fresh : Nat) (rM_told : Nat) (fM_told : Nat → Int32) (kM_told : ClassId) (rM_read : Nat) (rM_st : Nat) (rM_undone : Nat) (rM_kept : Nat) (iM_undos : Int32) (iM_images : Int32) (rM_fresher : Nat) (iM_fresherSize : Int32) (iM_scale : Int32) (iM_night : Int32) (rM_heardRow : Nat) (rM_cutRow : Nat) (iM_breaths : Int32) (iM_cutMany : Int32) (iM_allBreaths : Int32) (rM_trial : Nat) (rM_words : Nat) (iM_fewestBreaths : Int32) (iM_orderMany : Int32) (iM_orderSum : Int32) (iM_leastOrder : Int32) (rM_often : Nat) (iM_setMany : Int32) (iM_someOf : Int32) (iM_allOf : Int32) (iM_allWeight : Int64) (iM_enoughWeight : Int64) (iM_worthSum : Int64) (iM_firstRest : Int32) (iM_leastDrawn : Int32) (rQ : Nat) (fQ : Nat → Int32) (kQ : ClassId) (p0 : Int32) (p1 : Int32) (b_iM_taped : 0 ≤ iM_taped.toInt ∧ iM_taped.toInt ≤ 900) (b_iM_size : 0 ≤ iM_size.toInt ∧ iM_size.toInt ≤ 900) (b_iM_end : 0 ≤ iM_end.toInt ∧ iM_end.toInt ≤ 900) (b_iM_failed : 0 ≤ iM_failed.toInt ∧ iM_failed.toInt ≤ 1) (b_iM_hasCourt : 0 ≤ iM_hasCourt.toInt ∧ iM_hasCourt.toInt ≤ 1) (b_iM_undos : 0 ≤ iM_undos.toInt ∧ iM_undos.toInt ≤ 16) (b_iM_images : 0 ≤ iM_images.toInt ∧ iM_images.toInt ≤ 3) (b_iM_scale : 1 ≤ iM_scale.toInt ∧ iM_scale.toInt ≤ 1296) (b_iM_breaths : 0 ≤ iM_breaths.toInt ∧ iM_breaths.toInt ≤ 399) (b_iM_cutMany : 0 ≤ iM_cutMany.toInt ∧ iM_cutMany.toInt ≤ 399) (r_R : ROk fM_r) (r_C : iM_hasCourt.toInt ≤ 0 ∨ (1 ≤ (fM_r 1).toInt ∧ 0 ≤ (fM_r 6).toInt ∧ (fM_r 6).toInt < (fM_r 1).toInt)) (r_told : RowOk fM_r fM_told) (r_Q : RowOk fM_r fQ) (hk0 : 0 ≤ p0.toInt ∧ p0.toInt < (fM_r 1).toInt) (hnt : iM_night.toInt = -1) (hdp : 0 ≤ p1.toInt ∧ p1.toInt + p0.toInt ≤ 100) : Met l yX7_worthAt (Cond.code yX7_worthAt cX7_worthAt 9 (some .int) :: wG) ({ frames := 19, cells := 0, slots := 0, locals := 514 }) (va_Pc [.ref oM, .ref rQ, .int p0, .int p1] (Pw dC dI sz [(oc7 oM iM_thrown rM_tape iM_taped iM_size iM_at iM_end iM_token iM_whole iM_nameSize iM_fault iM_place iM_trouble rM_letters iM_failed iM_hasCourt rM_r rM_fresh rM_told rM_read rM_st rM_undone rM_kept iM_undos iM_images rM_fresher iM_fresherSize iM_scale iM_night rM_heardRow rM_cutRow iM_breaths iM_cutMany iM_allBreaths rM_trial rM_words iM_fewestBreaths iM_orderMany iM_orderSum iM_leastOrder rM_often iM_setMany iM_someOf iM_allOf iM_allWeight iM_enoughWeight iM_worthSum iM_firstRest iM_leastDrawn), (arI rM_r kM_r 287 fM_r), (arI rM_told kM_told 90 fM_told), (arI rQ kQ 90 fQ)] [(kM_r, .int), (kM_told, .int), (kQ, .int)])) (va_Qi (fun (r : Int32) (_ : Nat) => (True ∧ (r = rval fM_r fM_told fQ iM_scale 18 p0.toNatClampNeg)) ∧ PX7_worthAt 18 iM_night fM_r fM_told iM_scale fQ p0 p1 = r) (fun (_ : Nat) (t : State) => Bw dC dI (va_A [(oc7 oM iM_thrown rM_tape iM_taped iM_size iM_at iM_end iM_token iM_whole iM_nameSize iM_fault iM_place iM_trouble rM_letters iM_failed iM_hasCourt rM_r rM_fresh rM_told rM_read rM_st rM_undone rM_kept iM_undos iM_images rM_fresher iM_fresherSize iM_scale iM_night rM_heardRow rM_cutRow iM_breaths iM_cutMany iM_allBreaths rM_trial rM_words iM_fewestBreaths iM_orderMany iM_orderSum iM_leastOrder rM_often iM_setMany iM_someOf iM_allOf iM_allWeight iM_enoughWeight iM_worthSum iM_firstRest iM_leastDrawn), (arI rM_r kM_r 287 fM_r), (arI rM_told kM_told 90 fM_told), (arI rQ kQ 90 fQ)] sz) [(oc7 oM iM_thrown rM_tape iM_taped iM_size iM_at iM_end iM_token iM_whole iM_nameSize iM_fault iM_place iM_trouble rM_letters iM_failed iM_hasCourt rM_r rM_fresh rM_told rM_read rM_st rM_undone rM_kept iM_undos iM_images rM_fresher iM_fresherSize iM_scale iM_night rM_heardRow rM_cutRow iM_breaths iM_cutMany iM_allBreaths rM_trial rM_words iM_fewestBreaths iM_orderMany iM_orderSum iM_leastOrder rM_often iM_setMany iM_someOf iM_allOf iM_allWeight iM_enoughWeight iM_worthSum iM_firstRest iM_leastDrawn), (arI rM_r kM_r 287 fM_r), (arI rM_told kM_told 90 fM_told), (arI rQ kQ 90 fQ)] [(kM_r, .int), (kM_told, .int), (kQ, .int)] t) (va_A [(oc7 oM iM_thrown rM_tape iM_taped iM_size iM_at iM_end iM_token iM_whole iM_nameSize iM_fault iM_place iM_trouble rM_letters iM_failed iM_hasCourt rM_r rM_fresh rM_told rM_read rM_st rM_undone rM_kept iM_undos iM_images rM_fresher iM_fresherSize iM_scale iM_night rM_heardRow rM_cutRow iM_breaths iM_cutMany iM_allBreaths rM_trial rM_words iM_fewestBreaths iM_orderMany iM_orderSum iM_leastOrder rM_often iM_setMany iM_someOf iM_allOf iM_allWeight iM_enoughWeight iM_worthSum iM_firstRest iM_leastDrawn), (arI rM_r kM_r 287 fM_r), (arI rM_told kM_told 90 fM_told), (arI rQ kQ 90 fQ)] sz)) 0 0 (va_A [(oc7 oM iM_thrown rM_tape iM_taped iM_size iM_at iM_end iM_token iM_whole iM_nameSize iM_fault iM_place iM_trouble rM_letters iM_failed iM_hasCourt rM_r rM_fresh rM_told rM_read rM_st rM_undone rM_kept iM_undos iM_images rM_fresher iM_fresherSize iM_scale iM_night rM_heardRow rM_cutRow iM_breaths iM_cutMany iM_allBreaths rM_trial rM_words iM_fewestBreaths iM_orderMany iM_orderSum iM_leastOrder rM_often iM_setMany iM_someOf iM_allOf iM_allWeight iM_enoughWeight iM_worthSum iM_firstRest iM_leastDrawn), (arI rM_r kM_r 287 fM_r), (arI rM_told kM_told 90 fM_told), (arI rQ kQ 90 fQ)] sz) :=
  tX7_worthAt_x_n l dC dI 18 sz oM iM_thrown rM_tape iM_taped iM_size iM_at iM_end iM_token iM_whole iM_nameSize iM_fault iM_place iM_trouble rM_letters iM_failed iM_hasCourt rM_r fM_r kM_r rM_fresh rM_told fM_told kM_told rM_read rM_st rM_undone rM_kept iM_undos iM_images rM_fresher iM_fresherSize iM_scale iM_night rM_heardRow rM_cutRow iM_breaths iM_cutMany iM_allBreaths rM_trial rM_words iM_fewestBreaths iM_orderMany iM_orderSum iM_leastOrder rM_often iM_setMany iM_someOf iM_allOf iM_allWeight iM_enoughWeight iM_worthSum iM_firstRest iM_leastDrawn rQ fQ kQ p0 p1 b_iM_taped b_iM_size b_iM_end b_iM_failed b_iM_hasCourt b_iM_undos b_iM_images b_iM_scale b_iM_breaths b_iM_cutMany r_R r_C r_told r_Q hk0 hnt hdp (by have q := r_R.nodes; omega)
set_option maxHeartbeats 4000000 in
set_option maxRecDepth 100000 in
theorem tX7_worthOf_x (l : Launch) (dC : Nat → ClassId) (dI : Nat → Nat → Nat) (sz : Nat) (oM : Nat) (iM_thrown : Int32) (rM_tape : Nat) (iM_taped : Int32) (iM_size : Int32) (iM_at : Int32) (iM_end : Int32) (iM_token : Int32) (iM_whole : Int32) (iM_nameSize : Int32) (iM_fault : Int32) (iM_place : Int32) (iM_trouble : Int32) (rM_letters : Nat) (iM_failed : Int32) (iM_hasCourt : Int32) (rM_r : Nat) (fM_r : Nat → Int32) (kM_r : ClassId) (rM_fresh : Nat) (rM_told : Nat) (fM_told : Nat → Int32) (kM_told : ClassId) (rM_read : Nat) (rM_st : Nat) (rM_undone : Nat) (rM_kept : Nat) (iM_undos : Int32) (iM_images : Int32) (rM_fresher : Nat) (iM_fresherSize : Int32) (iM_scale : Int32) (iM_night : Int32) (rM_heardRow : Nat) (rM_cutRow : Nat) (iM_breaths : Int32) (iM_cutMany : Int32) (iM_allBreaths : Int32) (rM_trial : Nat) (rM_words : Nat) (iM_fewestBreaths : Int32) (iM_orderMany : Int32) (iM_orderSum : Int32) (iM_leastOrder : Int32) (rM_often : Nat) (iM_setMany : Int32) (iM_someOf : Int32) (iM_allOf : Int32) (iM_allWeight : Int64) (iM_enoughWeight : Int64) (iM_worthSum : Int64) (iM_firstRest : Int32) (iM_leastDrawn : Int32) (rQ : Nat) (fQ : Nat → Int32) (kQ : ClassId) (p0 : Int32) (b_iM_taped : 0 ≤ iM_taped.toInt ∧ iM_taped.toInt ≤ 900) (b_iM_size : 0 ≤ iM_size.toInt ∧ iM_size.toInt ≤ 900) (b_iM_end : 0 ≤ iM_end.toInt ∧ iM_end.toInt ≤ 900) (b_iM_failed : 0 ≤ iM_failed.toInt ∧ iM_failed.toInt ≤ 1) (b_iM_hasCourt : 0 ≤ iM_hasCourt.toInt ∧ iM_hasCourt.toInt ≤ 1) (b_iM_undos : 0 ≤ iM_undos.toInt ∧ iM_undos.toInt ≤ 16) (b_iM_images : 0 ≤ iM_images.toInt ∧ iM_images.toInt ≤ 3) (b_iM_scale : 1 ≤ iM_scale.toInt ∧ iM_scale.toInt ≤ 1296) (b_iM_breaths : 0 ≤ iM_breaths.toInt ∧ iM_breaths.toInt ≤ 399) (b_iM_cutMany : 0 ≤ iM_cutMany.toInt ∧ iM_cutMany.toInt ≤ 399) (r_R : ROk fM_r) (r_C : iM_hasCourt.toInt ≤ 0 ∨ (1 ≤ (fM_r 1).toInt ∧ 0 ≤ (fM_r 6).toInt ∧ (fM_r 6).toInt < (fM_r 1).toInt)) (r_told : RowOk fM_r fM_told) (r_Q : RowOk fM_r fQ) (hk0 : 0 ≤ p0.toInt ∧ p0.toInt < (fM_r 1).toInt) (hnt : iM_night.toInt = -1) : Met l yX7_worthOf (Cond.code yX7_worthOf cX7_worthOf 3 (some .int) :: wG) ({ frames := 20, cells := 0, slots := 0, locals := 542 }) (va_Pc [.ref oM, .ref rQ, .int p0] (Pw dC dI sz [(oc7 oM iM_thrown rM_tape iM_taped iM_size iM_at iM_end iM_token iM_whole iM_nameSize iM_fault iM_place iM_trouble rM_letters iM_failed iM_hasCourt rM_r rM_fresh rM_told rM_read rM_st rM_undone rM_kept iM_undos iM_images rM_fresher iM_fresherSize iM_scale iM_night rM_heardRow rM_cutRow iM_breaths iM_cutMany iM_allBreaths rM_trial rM_words iM_fewestBreaths iM_orderMany iM_orderSum iM_leastOrder rM_often iM_setMany iM_someOf iM_allOf iM_allWeight iM_enoughWeight iM_worthSum iM_firstRest iM_leastDrawn), (arI rM_r kM_r 287 fM_r), (arI rM_told kM_told 90 fM_told), (arI rQ kQ 90 fQ)] [(kM_r, .int), (kM_told, .int), (kQ, .int)])) (va_Qi (fun (r : Int32) (_ : Nat) => (True ∧ (r = rval fM_r fM_told fQ iM_scale 18 p0.toNatClampNeg)) ∧ PX7_worthOf fM_r fM_told iM_scale iM_night fQ p0 = r) (fun (_ : Nat) (t : State) => Bw dC dI (va_A [(oc7 oM iM_thrown rM_tape iM_taped iM_size iM_at iM_end iM_token iM_whole iM_nameSize iM_fault iM_place iM_trouble rM_letters iM_failed iM_hasCourt rM_r rM_fresh rM_told rM_read rM_st rM_undone rM_kept iM_undos iM_images rM_fresher iM_fresherSize iM_scale iM_night rM_heardRow rM_cutRow iM_breaths iM_cutMany iM_allBreaths rM_trial rM_words iM_fewestBreaths iM_orderMany iM_orderSum iM_leastOrder rM_often iM_setMany iM_someOf iM_allOf iM_allWeight iM_enoughWeight iM_worthSum iM_firstRest iM_leastDrawn), (arI rM_r kM_r 287 fM_r), (arI rM_told kM_told 90 fM_told), (arI rQ kQ 90 fQ)] sz) [(oc7 oM iM_thrown rM_tape iM_taped iM_size iM_at iM_end iM_token iM_whole iM_nameSize iM_fault iM_place iM_trouble rM_letters iM_failed iM_hasCourt rM_r rM_fresh rM_told rM_read rM_st rM_undone rM_kept iM_undos iM_images rM_fresher iM_fresherSize iM_scale iM_night rM_heardRow rM_cutRow iM_breaths iM_cutMany iM_allBreaths rM_trial rM_words iM_fewestBreaths iM_orderMany iM_orderSum iM_leastOrder rM_often iM_setMany iM_someOf iM_allOf iM_allWeight iM_enoughWeight iM_worthSum iM_firstRest iM_leastDrawn), (arI rM_r kM_r 287 fM_r), (arI rM_told kM_told 90 fM_told), (arI rQ kQ 90 fQ)] [(kM_r, .int), (kM_told, .int), (kQ, .int)] t) (va_A [(oc7 oM iM_thrown rM_tape iM_taped iM_size iM_at iM_end iM_token iM_whole iM_nameSize iM_fault iM_place iM_trouble rM_letters iM_failed iM_hasCourt rM_r rM_fresh rM_told rM_read rM_st rM_undone rM_kept iM_undos iM_images rM_fresher iM_fresherSize iM_scale iM_night rM_heardRow rM_cutRow iM_breaths iM_cutMany iM_allBreaths rM_trial rM_words iM_fewestBreaths iM_orderMany iM_orderSum iM_leastOrder rM_often iM_setMany iM_someOf iM_allOf iM_allWeight iM_enoughWeight iM_worthSum iM_firstRest iM_leastDrawn), (arI rM_r kM_r 287 fM_r), (arI rM_told kM_told 90 fM_told), (arI rQ kQ 90 fQ)] sz)) 0 0 (va_A [(oc7 oM iM_thrown rM_tape iM_taped iM_size iM_at iM_end iM_token iM_whole iM_nameSize iM_fault iM_place iM_trouble rM_letters iM_failed iM_hasCourt rM_r rM_fresh rM_told rM_read rM_st rM_undone rM_kept iM_undos iM_images rM_fresher iM_fresherSize iM_scale iM_night rM_heardRow rM_cutRow iM_breaths iM_cutMany iM_allBreaths rM_trial rM_words iM_fewestBreaths iM_orderMany iM_orderSum iM_leastOrder rM_often iM_setMany iM_someOf iM_allOf iM_allWeight iM_enoughWeight iM_worthSum iM_firstRest iM_leastDrawn), (arI rM_r kM_r 287 fM_r), (arI rM_told kM_told 90 fM_told), (arI rQ kQ 90 fQ)] sz) := by
  refine Met.ofW (cc := cX7_worthOf) (maxL := 3) (ret := (some .int)) (by decide) rfl ?_
  intro p e s m args below meth c s₁ B hml hv
  obtain ⟨rfl, hsz, hP, hK, hD0, hE⟩ := hv
  have hx := B.exec
  have hb := B.bytes
  have hr := B.returns
  have hts : ∀ w ∈ wG, w.before ([.ref oM, .ref rQ, .int p0] : List Value).toArray s = true := fun w h => atoms_spec (ws := Cond.code yX7_worthOf cX7_worthOf 3 (some .int) :: wG) B.pre w (List.mem_cons_of_mem _ h)
  have hown : s.vm.findClass RX7 = some m.cls := findClass_of_methodNamed B.named
  have hlocks := B.notSynchronized
  subst hsz
  have hD := hD0.self (sz := s.heap.size)
  generalize hAe : va_A [(oc7 oM iM_thrown rM_tape iM_taped iM_size iM_at iM_end iM_token iM_whole iM_nameSize iM_fault iM_place iM_trouble rM_letters iM_failed iM_hasCourt rM_r rM_fresh rM_told rM_read rM_st rM_undone rM_kept iM_undos iM_images rM_fresher iM_fresherSize iM_scale iM_night rM_heardRow rM_cutRow iM_breaths iM_cutMany iM_allBreaths rM_trial rM_words iM_fewestBreaths iM_orderMany iM_orderSum iM_leastOrder rM_often iM_setMany iM_someOf iM_allOf iM_allWeight iM_enoughWeight iM_worthSum iM_firstRest iM_leastDrawn), (arI rM_r kM_r 287 fM_r), (arI rM_told kM_told 90 fM_told), (arI rQ kQ 90 fQ)] s.heap.size = A at hD hE ⊢
  have hA : ∀ q : Nat, s.heap.size ≤ q → A q := fun q h => by rw [← hAe]; exact Or.inr h
  have hS : va_S A s.heap s.heap [] := va_S.rf
  have hl := lv_entry ([.ref oM, .ref rQ, .int p0]) (n := 3) (Nat.le_of_ble_eq_true rfl)
  rw [lg_entry_eq]
  generalize (lg_sl ([.ref oM, .ref rQ, .int p0]) ++ List.replicate (3 - (lg_sl ([.ref oM, .ref rQ, .int p0])).length) Slot.unset).toArray = ls at hl ⊢
  have hl : lv_has ls 3 [(0, .ref oM), (1, .ref rQ), (2, .int p0)] := hl
  have hG := PX7_worthOf_eq fM_r fM_told iM_scale iM_night fQ p0
  have s_slips := r_R.slips
  have s_nodes := r_R.nodes
  have s_uns := r_R.uns
  have q_p0 := ti_cl (x := p0) rfl (by omega)
  have mn_p0 := r_R.many (27 + p0.toNatClampNeg) (by omega) (by omega)
  have kn_p0 := r_R.kind (9 + p0.toNatClampNeg) (by omega) (by omega)
  have in_p0 := r_R.inner p0.toNatClampNeg (by omega)
  refine lv_aload_n hx hb dX7_worthOf_0 rfl (lv_at hl 0 rfl) ?_
  refine lv_aload_n hx hb dX7_worthOf_1 rfl (lv_at hl 1 rfl) ?_
  refine lv_iload_n hx hb dX7_worthOf_2 rfl (lv_at hl 2 rfl) ?_
  refine lv_iconst (v := 0) hx hb dX7_worthOf_3 (by decide) ?_
  have hFc := va_free (wc := [(oc7 oM iM_thrown rM_tape iM_taped iM_size iM_at iM_end iM_token iM_whole iM_nameSize iM_fault iM_place iM_trouble rM_letters iM_failed iM_hasCourt rM_r rM_fresh rM_told rM_read rM_st rM_undone rM_kept iM_undos iM_images rM_fresher iM_fresherSize iM_scale iM_night rM_heardRow rM_cutRow iM_breaths iM_cutMany iM_allBreaths rM_trial rM_words iM_fewestBreaths iM_orderMany iM_orderSum iM_leastOrder rM_often iM_setMany iM_someOf iM_allOf iM_allWeight iM_enoughWeight iM_worthSum iM_firstRest iM_leastDrawn), (arI rM_r kM_r 287 fM_r), (arI rM_told kM_told 90 fM_told), (arI rQ kQ 90 fQ)]) hD hS hA [0, 1, 2, 3] rfl
  refine va_calli (va_runV (As := [.ref rQ, .int p0, .int 0]) (rest := []) ⟨hx, hb, hml, hown, hts⟩ (tX7_worthAt_x l dC dI _ oM iM_thrown rM_tape iM_taped iM_size iM_at iM_end iM_token iM_whole iM_nameSize iM_fault iM_place iM_trouble rM_letters iM_failed iM_hasCourt rM_r fM_r kM_r rM_fresh rM_told fM_told kM_told rM_read rM_st rM_undone rM_kept iM_undos iM_images rM_fresher iM_fresherSize iM_scale iM_night rM_heardRow rM_cutRow iM_breaths iM_cutMany iM_allBreaths rM_trial rM_words iM_fewestBreaths iM_orderMany iM_orderSum iM_leastOrder rM_often iM_setMany iM_someOf iM_allOf iM_allWeight iM_enoughWeight iM_worthSum iM_firstRest iM_leastDrawn rQ fQ kQ p0 0 (by first | omega | decide) (by first | omega | decide) (by first | omega | decide) (by first | omega | decide) (by first | omega | decide) (by first | omega | decide) (by first | omega | decide) (by first | omega | decide) (by first | omega | decide) (by first | omega | decide) (by assumption) (by assumption) (by assumption) (by assumption) (by first | omega | decide | assumption | (have q0 := kc_0; have q1 := kc_1; omega) | (intro h; exact absurd h (by decide))) (by first | omega | decide | assumption | (have q0 := kc_0; have q1 := kc_1; omega) | (intro h; exact absurd h (by decide))) (by first | omega | decide | assumption | (have q0 := kc_0; have q1 := kc_1; omega) | (intro h; exact absurd h (by decide)))) (cwV 3 hts (wd_V wd_649 wd_650 wd_651 wd_5 (wd_c wd_652)) rfl rfl rfl (by decide +kernel) ⟨Nat.le_of_ble_eq_true rfl, Nat.le_of_ble_eq_true rfl⟩) ⟨Pw.fb, va_recv hK hP (ci := 7) (q0 := 0) rfl rfl, fun U hU hW => Pw.to (hP.sub [0, 1, 2, 3] rfl) (hD.sub [0, 1, 2, 3] (by decide) rfl) (hK.sub [0, 1, 2] rfl) hE hS hFc hU hW⟩ rfl rfl hl.1 rfl (lv_room (Nat.le_of_ble_eq_true rfl)) dX7_worthOf_4 ⟨Nat.le_of_ble_eq_true rfl, Nat.le_of_ble_eq_true rfl⟩) hS (fun q _ h => hFc q h) hFc (fun r u t H locs ht hvm hw hB hz1 hk1 hS => ?_)
  have hru9 := hw.2
  have hw := hw.1
  obtain ⟨hP, hD, hK⟩ := Bw.go (ws' := [(oc7 oM iM_thrown rM_tape iM_taped iM_size iM_at iM_end iM_token iM_whole iM_nameSize iM_fault iM_place iM_trouble rM_letters iM_failed iM_hasCourt rM_r rM_fresh rM_told rM_read rM_st rM_undone rM_kept iM_undos iM_images rM_fresher iM_fresherSize iM_scale iM_night rM_heardRow rM_cutRow iM_breaths iM_cutMany iM_allBreaths rM_trial rM_words iM_fewestBreaths iM_orderMany iM_orderSum iM_leastOrder rM_often iM_setMany iM_someOf iM_allOf iM_allWeight iM_enoughWeight iM_worthSum iM_firstRest iM_leastDrawn), (arI rM_r kM_r 287 fM_r), (arI rM_told kM_told 90 fM_told), (arI rQ kQ 90 fQ)]) (tys' := [(kM_r, .int), (kM_told, .int), (kQ, .int)]) hB rfl ht hvm hP hD hK [0, 1, 2, 3] [] rfl (by decide) (by decide) [] hk1 hFc rfl rfl rfl
  clear hz1 hk1 hvm ht hB
  obtain ⟨x_4664, rfl⟩ : ∃ z, z = r := ⟨_, rfl⟩
  have hG := hG.trans (lt_eq hru9.symm)
  have lx_4664 := hw.2
  exact W.iret hx hb hr (fun t ht hW => ⟨⟨_, 0, rfl, ⟨⟨trivial, lx_4664⟩, hG⟩, Bw.to (hP.sub [0, 1, 2, 3] rfl) (hD.sub [0, 1, 2, 3] (by decide) rfl) (hK.sub [0, 1, 2] rfl) ht hW⟩, hS.F ht⟩) hS.2.2 dX7_worthOf_7
set_option maxHeartbeats 4000000 in
set_option maxRecDepth 100000 in
theorem tX7_bestOf (l : Launch) (dC : Nat → ClassId) (dI : Nat → Nat → Nat) (sz : Nat) (oM : Nat) (iM_thrown : Int32) (rM_tape : Nat) (iM_taped : Int32) (iM_size : Int32) (iM_at : Int32) (iM_end : Int32) (iM_token : Int32) (iM_whole : Int32) (iM_nameSize : Int32) (iM_fault : Int32) (iM_place : Int32) (iM_trouble : Int32) (rM_letters : Nat) (iM_failed : Int32) (iM_hasCourt : Int32) (rM_r : Nat) (fM_r : Nat → Int32) (kM_r : ClassId) (rM_fresh : Nat) (rM_told : Nat) (fM_told : Nat → Int32) (kM_told : ClassId) (rM_read : Nat) (rM_st : Nat) (fM_st : Nat → Int32) (kM_st : ClassId) (rM_undone : Nat) (rM_kept : Nat) (iM_undos : Int32) (iM_images : Int32) (rM_fresher : Nat) (iM_fresherSize : Int32) (iM_scale : Int32) (iM_night : Int32) (rM_heardRow : Nat) (rM_cutRow : Nat) (iM_breaths : Int32) (iM_cutMany : Int32) (iM_allBreaths : Int32) (rM_trial : Nat) (rM_words : Nat) (iM_fewestBreaths : Int32) (iM_orderMany : Int32) (iM_orderSum : Int32) (iM_leastOrder : Int32) (rM_often : Nat) (iM_setMany : Int32) (iM_someOf : Int32) (iM_allOf : Int32) (iM_allWeight : Int64) (iM_enoughWeight : Int64) (iM_worthSum : Int64) (iM_firstRest : Int32) (iM_leastDrawn : Int32) (p0 : Int32) (b_iM_taped : 0 ≤ iM_taped.toInt ∧ iM_taped.toInt ≤ 900) (b_iM_size : 0 ≤ iM_size.toInt ∧ iM_size.toInt ≤ 900) (b_iM_end : 0 ≤ iM_end.toInt ∧ iM_end.toInt ≤ 900) (b_iM_failed : 0 ≤ iM_failed.toInt ∧ iM_failed.toInt ≤ 1) (b_iM_hasCourt : 0 ≤ iM_hasCourt.toInt ∧ iM_hasCourt.toInt ≤ 1) (b_iM_undos : 0 ≤ iM_undos.toInt ∧ iM_undos.toInt ≤ 16) (b_iM_images : 0 ≤ iM_images.toInt ∧ iM_images.toInt ≤ 3) (b_iM_scale : 1 ≤ iM_scale.toInt ∧ iM_scale.toInt ≤ 1296) (b_iM_breaths : 0 ≤ iM_breaths.toInt ∧ iM_breaths.toInt ≤ 399) (b_iM_cutMany : 0 ≤ iM_cutMany.toInt ∧ iM_cutMany.toInt ≤ 399) (r_R : ROk fM_r) (r_C : iM_hasCourt.toInt ≤ 0 ∨ (1 ≤ (fM_r 1).toInt ∧ 0 ≤ (fM_r 6).toInt ∧ (fM_r 6).toInt < (fM_r 1).toInt)) (r_st : RowOk fM_r fM_st) (r_told : RowOk fM_r fM_told) (r_wst : WorOk fM_st) (hk0 : 0 ≤ p0.toInt ∧ p0.toInt < (fM_r 1).toInt) (hnt : iM_night.toInt = -1) : Met l yX7_bestOf (Cond.code yX7_bestOf cX7_bestOf 3 (some .int) :: wG) ({ frames := 21, cells := 0, slots := 0, locals := 564 }) (va_Pc [.ref oM, .int p0] (Pw dC dI sz [(oc7 oM iM_thrown rM_tape iM_taped iM_size iM_at iM_end iM_token iM_whole iM_nameSize iM_fault iM_place iM_trouble rM_letters iM_failed iM_hasCourt rM_r rM_fresh rM_told rM_read rM_st rM_undone rM_kept iM_undos iM_images rM_fresher iM_fresherSize iM_scale iM_night rM_heardRow rM_cutRow iM_breaths iM_cutMany iM_allBreaths rM_trial rM_words iM_fewestBreaths iM_orderMany iM_orderSum iM_leastOrder rM_often iM_setMany iM_someOf iM_allOf iM_allWeight iM_enoughWeight iM_worthSum iM_firstRest iM_leastDrawn), (arI rM_r kM_r 287 fM_r), (arI rM_told kM_told 90 fM_told), (arI rM_st kM_st 90 fM_st)] [(kM_r, .int), (kM_told, .int), (kM_st, .int)])) (va_Qi (fun (r : Int32) (_ : Nat) => (True ∧ (-2 ≤ r.toInt ∧ r.toInt < p0.toInt ∧ r.toInt ≤ 17)) ∧ PX7_bestOf fM_r fM_told fM_st iM_scale iM_night p0 = r) (fun (_ : Nat) (t : State) => Bw dC dI (va_A [(oc7 oM iM_thrown rM_tape iM_taped iM_size iM_at iM_end iM_token iM_whole iM_nameSize iM_fault iM_place iM_trouble rM_letters iM_failed iM_hasCourt rM_r rM_fresh rM_told rM_read rM_st rM_undone rM_kept iM_undos iM_images rM_fresher iM_fresherSize iM_scale iM_night rM_heardRow rM_cutRow iM_breaths iM_cutMany iM_allBreaths rM_trial rM_words iM_fewestBreaths iM_orderMany iM_orderSum iM_leastOrder rM_often iM_setMany iM_someOf iM_allOf iM_allWeight iM_enoughWeight iM_worthSum iM_firstRest iM_leastDrawn), (arI rM_r kM_r 287 fM_r), (arI rM_told kM_told 90 fM_told), (arI rM_st kM_st 90 fM_st)] sz) [(oc7 oM iM_thrown rM_tape iM_taped iM_size iM_at iM_end iM_token iM_whole iM_nameSize iM_fault iM_place iM_trouble rM_letters iM_failed iM_hasCourt rM_r rM_fresh rM_told rM_read rM_st rM_undone rM_kept iM_undos iM_images rM_fresher iM_fresherSize iM_scale iM_night rM_heardRow rM_cutRow iM_breaths iM_cutMany iM_allBreaths rM_trial rM_words iM_fewestBreaths iM_orderMany iM_orderSum iM_leastOrder rM_often iM_setMany iM_someOf iM_allOf iM_allWeight iM_enoughWeight iM_worthSum iM_firstRest iM_leastDrawn), (arI rM_r kM_r 287 fM_r), (arI rM_told kM_told 90 fM_told), (arI rM_st kM_st 90 fM_st)] [(kM_r, .int), (kM_told, .int), (kM_st, .int)] t) (va_A [(oc7 oM iM_thrown rM_tape iM_taped iM_size iM_at iM_end iM_token iM_whole iM_nameSize iM_fault iM_place iM_trouble rM_letters iM_failed iM_hasCourt rM_r rM_fresh rM_told rM_read rM_st rM_undone rM_kept iM_undos iM_images rM_fresher iM_fresherSize iM_scale iM_night rM_heardRow rM_cutRow iM_breaths iM_cutMany iM_allBreaths rM_trial rM_words iM_fewestBreaths iM_orderMany iM_orderSum iM_leastOrder rM_often iM_setMany iM_someOf iM_allOf iM_allWeight iM_enoughWeight iM_worthSum iM_firstRest iM_leastDrawn), (arI rM_r kM_r 287 fM_r), (arI rM_told kM_told 90 fM_told), (arI rM_st kM_st 90 fM_st)] sz)) 0 0 (va_A [(oc7 oM iM_thrown rM_tape iM_taped iM_size iM_at iM_end iM_token iM_whole iM_nameSize iM_fault iM_place iM_trouble rM_letters iM_failed iM_hasCourt rM_r rM_fresh rM_told rM_read rM_st rM_undone rM_kept iM_undos iM_images rM_fresher iM_fresherSize iM_scale iM_night rM_heardRow rM_cutRow iM_breaths iM_cutMany iM_allBreaths rM_trial rM_words iM_fewestBreaths iM_orderMany iM_orderSum iM_leastOrder rM_often iM_setMany iM_someOf iM_allOf iM_allWeight iM_enoughWeight iM_worthSum iM_firstRest iM_leastDrawn), (arI rM_r kM_r 287 fM_r), (arI rM_told kM_told 90 fM_told), (arI rM_st kM_st 90 fM_st)] sz) := by
  refine Met.ofW (cc := cX7_bestOf) (maxL := 3) (ret := (some .int)) (by decide) rfl ?_
  intro p e s m args below meth c s₁ B hml hv
  obtain ⟨rfl, hsz, hP, hK, hD0, hE⟩ := hv
  have hx := B.exec
  have hb := B.bytes
  have hr := B.returns
  have hts : ∀ w ∈ wG, w.before ([.ref oM, .int p0] : List Value).toArray s = true := fun w h => atoms_spec (ws := Cond.code yX7_bestOf cX7_bestOf 3 (some .int) :: wG) B.pre w (List.mem_cons_of_mem _ h)
  have hown : s.vm.findClass RX7 = some m.cls := findClass_of_methodNamed B.named
  have hlocks := B.notSynchronized
  subst hsz
  have hD := hD0.self (sz := s.heap.size)
  generalize hAe : va_A [(oc7 oM iM_thrown rM_tape iM_taped iM_size iM_at iM_end iM_token iM_whole iM_nameSize iM_fault iM_place iM_trouble rM_letters iM_failed iM_hasCourt rM_r rM_fresh rM_told rM_read rM_st rM_undone rM_kept iM_undos iM_images rM_fresher iM_fresherSize iM_scale iM_night rM_heardRow rM_cutRow iM_breaths iM_cutMany iM_allBreaths rM_trial rM_words iM_fewestBreaths iM_orderMany iM_orderSum iM_leastOrder rM_often iM_setMany iM_someOf iM_allOf iM_allWeight iM_enoughWeight iM_worthSum iM_firstRest iM_leastDrawn), (arI rM_r kM_r 287 fM_r), (arI rM_told kM_told 90 fM_told), (arI rM_st kM_st 90 fM_st)] s.heap.size = A at hD hE ⊢
  have hA : ∀ q : Nat, s.heap.size ≤ q → A q := fun q h => by rw [← hAe]; exact Or.inr h
  have hS : va_S A s.heap s.heap [] := va_S.rf
  have hl := lv_entry ([.ref oM, .int p0]) (n := 3) (Nat.le_of_ble_eq_true rfl)
  rw [lg_entry_eq]
  generalize (lg_sl ([.ref oM, .int p0]) ++ List.replicate (3 - (lg_sl ([.ref oM, .int p0])).length) Slot.unset).toArray = ls at hl ⊢
  have hl : lv_has ls 3 [(0, .ref oM), (1, .int p0)] := hl
  have hG := PX7_bestOf_eq fM_r fM_told fM_st iM_scale iM_night p0
  have s_slips := r_R.slips
  have s_nodes := r_R.nodes
  have s_uns := r_R.uns
  have q_p0 := ti_cl (x := p0) rfl (by omega)
  have mn_p0 := r_R.many (27 + p0.toNatClampNeg) (by omega) (by omega)
  have kn_p0 := r_R.kind (9 + p0.toNatClampNeg) (by omega) (by omega)
  have in_p0 := r_R.inner p0.toNatClampNeg (by omega)
  refine lv_aload_n hx hb dX7_bestOf_0 rfl (lv_at hl 0 rfl) ?_
  refine va_get (D := (dC, dI)) (ci := 7) (v := .ref rM_r) (C := RX7) (T := TX7) (N := 48) hx hb hts inX7 hown hK hP 0 rfl rfl 15 (by decide) (hts _ wd_155) (fun _ h9 => h9) rfl dX7_bestOf_1 ?_
  refine lv_bipush (v := 9) hx hb dX7_bestOf_4 (by decide) ?_
  refine lv_iload_n hx hb dX7_bestOf_6 rfl (lv_at hl 1 rfl) ?_
  refine lv_iadd hx hb dX7_bestOf_7 ?_
  refine lv_topi (fun x_4695 ex_4695 => ?_)
  have hG := hG.trans (lt_eq ex_4695)
  have vx_4695 : x_4695.toInt = p0.toInt + 9 := by have q := ti_add ex_4695 kc_9 rfl (by omega) (by omega); omega
  refine va_iald hx hb hK hP 1 0 rfl rfl (ti_in vx_4695 (by omega) (by omega)) dX7_bestOf_8 ?_
  refine lv_topi (fun x_4696 ex_4696 => ?_)
  have hG := hG.trans (lt_eq ex_4696)
  have kx_4696 : (fM_r x_4695.toNatClampNeg).toInt = x_4696.toInt := by rw [ex_4696]
  have cx_4696 : (fM_r (9 + p0.toNatClampNeg)).toInt = x_4696.toInt := by rw [show 9 + p0.toNatClampNeg = x_4695.toNatClampNeg from by have q9 := ti_cl (x := x_4695) vx_4695 (by omega); have q_p0 := ti_cl (x := p0) rfl (by omega); omega]; exact kx_4696
  have sx_4696 := r_R.kind x_4695.toNatClampNeg (by have q9 := ti_cl (x := x_4695) vx_4695 (by omega); omega) (by have q9 := ti_cl (x := x_4695) vx_4695 (by omega); omega)
  refine lv_iconst (v := 1) hx hb dX7_bestOf_9 (by decide) ?_
  refine lv_icmp_eq (tgt := 29) hx hb dX7_bestOf_10 (by decide) (fun c_4697 => ?_) (fun c_4697 => ?_)
  · skip
    have hG := hG.trans (if_pos c_4697)
    have gc_4697 := ti_eq c_4697 rfl kc_1
    refine lv_iconst (v := 0) hx hb dX7_bestOf_29 (by decide) ?_
    refine lv_istore_n (lv' := [(2, .int 0), (0, .ref oM), (1, .int p0)]) hx hb dX7_bestOf_30 rfl hl (by decide) rfl (fun ls hl => ?_)
    have hl := lv_sub hl (l' := [(2, .int 0), (0, .ref oM), (1, .int p0)]) [0, 1, 2] rfl
    have key_n_4699 : ∀ (n_4699 : Nat) (z_4698 : Int32) (H : Heap) (locs : List Loc) (ls : Array Slot), (0 ≤ z_4698.toInt ∧ z_4698.toInt < (fM_r (27 + p0.toNatClampNeg)).toInt) → (BestJ fM_r fM_told fM_st iM_scale p0.toNatClampNeg z_4698.toInt) → ((fM_r (27 + p0.toNatClampNeg)).toInt - z_4698.toInt).toNat < n_4699 → (PX7_bestOf fM_r fM_told fM_st iM_scale iM_night p0 = HX7_bestOf_0 fM_r fM_told fM_st iM_scale iM_night p0 n_4699 z_4698) → va_P (dC, dI) vwCl [(oc7 oM iM_thrown rM_tape iM_taped iM_size iM_at iM_end iM_token iM_whole iM_nameSize iM_fault iM_place iM_trouble rM_letters iM_failed iM_hasCourt rM_r rM_fresh rM_told rM_read rM_st rM_undone rM_kept iM_undos iM_images rM_fresher iM_fresherSize iM_scale iM_night rM_heardRow rM_cutRow iM_breaths iM_cutMany iM_allBreaths rM_trial rM_words iM_fewestBreaths iM_orderMany iM_orderSum iM_leastOrder rM_often iM_setMany iM_someOf iM_allOf iM_allWeight iM_enoughWeight iM_worthSum iM_firstRest iM_leastDrawn), (arI rM_r kM_r 287 fM_r), (arI rM_told kM_told 90 fM_told), (arI rM_st kM_st 90 fM_st)] H → va_D A [(oc7 oM iM_thrown rM_tape iM_taped iM_size iM_at iM_end iM_token iM_whole iM_nameSize iM_fault iM_place iM_trouble rM_letters iM_failed iM_hasCourt rM_r rM_fresh rM_told rM_read rM_st rM_undone rM_kept iM_undos iM_images rM_fresher iM_fresherSize iM_scale iM_night rM_heardRow rM_cutRow iM_breaths iM_cutMany iM_allBreaths rM_trial rM_words iM_fewestBreaths iM_orderMany iM_orderSum iM_leastOrder rM_often iM_setMany iM_someOf iM_allOf iM_allWeight iM_enoughWeight iM_worthSum iM_firstRest iM_leastDrawn), (arI rM_r kM_r 287 fM_r), (arI rM_told kM_told 90 fM_told), (arI rM_st kM_st 90 fM_st)] → va_S A s.heap H locs → lv_has ls 3 [(2, .int z_4698), (0, .ref oM), (1, .int p0)] → W p l e (headSpec (Cond.code yX7_bestOf cX7_bestOf 3 (some .int) :: wG) ({ frames := 21, cells := 0, slots := 0, locals := 564 })).room s m ([.ref oM, .int p0] : List Value).toArray below meth c H locs 0 0 (MQ below (va_Qi (fun (r : Int32) (_ : Nat) => (True ∧ (-2 ≤ r.toInt ∧ r.toInt < p0.toInt ∧ r.toInt ≤ 17)) ∧ PX7_bestOf fM_r fM_told fM_st iM_scale iM_night p0 = r) (fun (_ : Nat) (t : State) => Bw dC dI A [(oc7 oM iM_thrown rM_tape iM_taped iM_size iM_at iM_end iM_token iM_whole iM_nameSize iM_fault iM_place iM_trouble rM_letters iM_failed iM_hasCourt rM_r rM_fresh rM_told rM_read rM_st rM_undone rM_kept iM_undos iM_images rM_fresher iM_fresherSize iM_scale iM_night rM_heardRow rM_cutRow iM_breaths iM_cutMany iM_allBreaths rM_trial rM_words iM_fewestBreaths iM_orderMany iM_orderSum iM_leastOrder rM_often iM_setMany iM_someOf iM_allOf iM_allWeight iM_enoughWeight iM_worthSum iM_firstRest iM_leastDrawn), (arI rM_r kM_r 287 fM_r), (arI rM_told kM_told 90 fM_told), (arI rM_st kM_st 90 fM_st)] [(kM_r, .int), (kM_told, .int), (kM_st, .int)] t) A) ([.ref oM, .int p0] : List Value).toArray s 0 0 A) (F0 m 31 ls []) := by
      intro n_4699
      induction n_4699 with
      | zero => intro z_4698 H locs ls hi0_n_4699 hi1_n_4699 hm; exact absurd hm (by omega)
      | succ n_4699 ih_n_4699 =>
        intro z_4698 H locs ls hi0_n_4699 hi1_n_4699 hm hG hP hD hS hl
        have hG := hG.trans (HX7_bestOf_0_eq _ _ _ _ _ _ _ _)
        refine lv_aload_n hx hb dX7_bestOf_31 rfl (lv_at hl 1 rfl) ?_
        refine lv_aload_n hx hb dX7_bestOf_32 rfl (lv_at hl 1 rfl) ?_
        refine va_get (D := (dC, dI)) (ci := 7) (v := .ref rM_st) (C := RX7) (T := TX7) (N := 48) hx hb hts inX7 hown hK hP 0 rfl rfl 19 (by decide) (hts _ wd_159) (fun _ h9 => h9) rfl dX7_bestOf_33 ?_
        refine lv_aload_n hx hb dX7_bestOf_36 rfl (lv_at hl 1 rfl) ?_
        refine va_get (D := (dC, dI)) (ci := 7) (v := .ref rM_st) (C := RX7) (T := TX7) (N := 48) hx hb hts inX7 hown hK hP 0 rfl rfl 19 (by decide) (hts _ wd_159) (fun _ h9 => h9) rfl dX7_bestOf_37 ?_
        refine lv_iconst (v := 4) hx hb dX7_bestOf_40 (by decide) ?_
        refine lv_iload_n hx hb dX7_bestOf_41 rfl (lv_at hl 2 rfl) ?_
        refine lv_imul hx hb dX7_bestOf_42 ?_
        refine lv_topi (fun x_4700 ex_4700 => ?_)
        have hG := hG.trans (lt_eq ex_4700)
        have vx_4700 : x_4700.toInt = 4 * p0.toInt := by have q := ti_mul ex_4700 kc_4 rfl (by omega) (by omega); omega
        refine lv_iload_n hx hb dX7_bestOf_43 rfl (lv_at hl 0 rfl) ?_
        refine lv_iadd hx hb dX7_bestOf_44 ?_
        refine lv_topi (fun x_4701 ex_4701 => ?_)
        have hG := hG.trans (lt_eq ex_4701)
        have vx_4701 : x_4701.toInt = 4 * p0.toInt + z_4698.toInt := by have q := ti_add ex_4701 vx_4700 rfl (by omega) (by omega); omega
        refine va_iald hx hb hK hP 3 2 rfl rfl (ti_in vx_4701 (by omega) (by omega)) dX7_bestOf_45 ?_
        refine lv_topi (fun x_4702 ex_4702 => ?_)
        have hG := hG.trans (lt_eq ex_4702)
        have kx_4702 : (fM_st x_4701.toNatClampNeg).toInt = x_4702.toInt := by rw [ex_4702]
        have cx_4702 : (fM_st (4 * p0.toNatClampNeg + z_4698.toNatClampNeg)).toInt = x_4702.toInt := by rw [show 4 * p0.toNatClampNeg + z_4698.toNatClampNeg = x_4701.toNatClampNeg from by have q9 := ti_cl (x := x_4701) vx_4701 (by omega); have q_p0 := ti_cl (x := p0) rfl (by omega); have q_z_4698 := ti_cl (x := z_4698) rfl (by omega); omega]; exact kx_4702
        have wx_4702 := r_st.lt p0.toNatClampNeg (z_4698.toNatClampNeg) (by have q_1 := ti_cl (x := p0) rfl (by omega); have q_2 := ti_cl (x := z_4698) rfl (by omega); omega) (by have q_1 := ti_cl (x := p0) rfl (by omega); have q_2 := ti_cl (x := z_4698) rfl (by omega); omega)
        have wx_4702 : 0 ≤ x_4702.toInt ∧ x_4702.toInt < p0.toInt := by have q_1 := ti_cl (x := p0) rfl (by omega); have q_2 := ti_cl (x := z_4698) rfl (by omega); have q_3 := cx_4702; rw [show 4 * p0.toNatClampNeg + (z_4698.toNatClampNeg) = 4 * p0.toNatClampNeg + z_4698.toNatClampNeg from by omega] at wx_4702; omega
        have hFc := va_free (wc := [(oc7 oM iM_thrown rM_tape iM_taped iM_size iM_at iM_end iM_token iM_whole iM_nameSize iM_fault iM_place iM_trouble rM_letters iM_failed iM_hasCourt rM_r rM_fresh rM_told rM_read rM_st rM_undone rM_kept iM_undos iM_images rM_fresher iM_fresherSize iM_scale iM_night rM_heardRow rM_cutRow iM_breaths iM_cutMany iM_allBreaths rM_trial rM_words iM_fewestBreaths iM_orderMany iM_orderSum iM_leastOrder rM_often iM_setMany iM_someOf iM_allOf iM_allWeight iM_enoughWeight iM_worthSum iM_firstRest iM_leastDrawn), (arI rM_r kM_r 287 fM_r), (arI rM_told kM_told 90 fM_told), (arI rM_st kM_st 90 fM_st)]) hD hS hA [0, 1, 2, 3] rfl
        refine va_calli (va_runV (As := [.ref rM_st, .int x_4702]) (rest := []) ⟨hx, hb, hml, hown, hts⟩ (tX7_worthOf_x l dC dI _ oM iM_thrown rM_tape iM_taped iM_size iM_at iM_end iM_token iM_whole iM_nameSize iM_fault iM_place iM_trouble rM_letters iM_failed iM_hasCourt rM_r fM_r kM_r rM_fresh rM_told fM_told kM_told rM_read rM_st rM_undone rM_kept iM_undos iM_images rM_fresher iM_fresherSize iM_scale iM_night rM_heardRow rM_cutRow iM_breaths iM_cutMany iM_allBreaths rM_trial rM_words iM_fewestBreaths iM_orderMany iM_orderSum iM_leastOrder rM_often iM_setMany iM_someOf iM_allOf iM_allWeight iM_enoughWeight iM_worthSum iM_firstRest iM_leastDrawn rM_st fM_st kM_st x_4702 (by first | omega | decide) (by first | omega | decide) (by first | omega | decide) (by first | omega | decide) (by first | omega | decide) (by first | omega | decide) (by first | omega | decide) (by first | omega | decide) (by first | omega | decide) (by first | omega | decide) (by assumption) (by assumption) (by assumption) (by assumption) (by first | omega | decide | assumption | (have q0 := kc_0; have q1 := kc_1; omega) | (intro h; exact absurd h (by decide))) (by first | omega | decide | assumption | (have q0 := kc_0; have q1 := kc_1; omega) | (intro h; exact absurd h (by decide)))) (cwV 2 hts (wd_V wd_645 wd_646 wd_647 wd_5 (wd_c wd_648)) rfl rfl rfl (by decide +kernel) ⟨Nat.le_of_ble_eq_true rfl, Nat.le_of_ble_eq_true rfl⟩) ⟨Pw.fb, va_recv hK hP (ci := 7) (q0 := 0) rfl rfl, fun U hU hW => Pw.to (hP.sub [0, 1, 2, 3] rfl) (hD.sub [0, 1, 2, 3] (by decide) rfl) (hK.sub [0, 1, 2] rfl) hE hS hFc hU hW⟩ rfl rfl hl.1 rfl (lv_room (Nat.le_of_ble_eq_true rfl)) dX7_bestOf_46 ⟨Nat.le_of_ble_eq_true rfl, Nat.le_of_ble_eq_true rfl⟩) hS (fun q _ h => hFc q h) hFc (fun r u t H locs ht hvm hw hB hz1 hk1 hS => ?_)
        have hru9 := hw.2
        have hw := hw.1
        obtain ⟨hP, hD, hK⟩ := Bw.go (ws' := [(oc7 oM iM_thrown rM_tape iM_taped iM_size iM_at iM_end iM_token iM_whole iM_nameSize iM_fault iM_place iM_trouble rM_letters iM_failed iM_hasCourt rM_r rM_fresh rM_told rM_read rM_st rM_undone rM_kept iM_undos iM_images rM_fresher iM_fresherSize iM_scale iM_night rM_heardRow rM_cutRow iM_breaths iM_cutMany iM_allBreaths rM_trial rM_words iM_fewestBreaths iM_orderMany iM_orderSum iM_leastOrder rM_often iM_setMany iM_someOf iM_allOf iM_allWeight iM_enoughWeight iM_worthSum iM_firstRest iM_leastDrawn), (arI rM_r kM_r 287 fM_r), (arI rM_told kM_told 90 fM_told), (arI rM_st kM_st 90 fM_st)]) (tys' := [(kM_r, .int), (kM_told, .int), (kM_st, .int)]) hB rfl ht hvm hP hD hK [0, 1, 2, 3] [] rfl (by decide) (by decide) [] hk1 hFc rfl rfl rfl
        clear hz1 hk1 hvm ht hB
        obtain ⟨x_4703, rfl⟩ : ∃ z, z = r := ⟨_, rfl⟩
        have hG := hG.trans (lt_eq hru9.symm)
        have lx_4703 := hw.2
        refine lv_aload_n hx hb dX7_bestOf_49 rfl (lv_at hl 1 rfl) ?_
        refine lv_aload_n hx hb dX7_bestOf_50 rfl (lv_at hl 1 rfl) ?_
        refine va_get (D := (dC, dI)) (ci := 7) (v := .ref rM_st) (C := RX7) (T := TX7) (N := 48) hx hb hts inX7 hown hK hP 0 rfl rfl 19 (by decide) (hts _ wd_159) (fun _ h9 => h9) rfl dX7_bestOf_51 ?_
        refine lv_iload_n hx hb dX7_bestOf_54 rfl (lv_at hl 2 rfl) ?_
        have hFc := va_free (wc := [(oc7 oM iM_thrown rM_tape iM_taped iM_size iM_at iM_end iM_token iM_whole iM_nameSize iM_fault iM_place iM_trouble rM_letters iM_failed iM_hasCourt rM_r rM_fresh rM_told rM_read rM_st rM_undone rM_kept iM_undos iM_images rM_fresher iM_fresherSize iM_scale iM_night rM_heardRow rM_cutRow iM_breaths iM_cutMany iM_allBreaths rM_trial rM_words iM_fewestBreaths iM_orderMany iM_orderSum iM_leastOrder rM_often iM_setMany iM_someOf iM_allOf iM_allWeight iM_enoughWeight iM_worthSum iM_firstRest iM_leastDrawn), (arI rM_r kM_r 287 fM_r), (arI rM_told kM_told 90 fM_told), (arI rM_st kM_st 90 fM_st)]) hD hS hA [0, 1, 2, 3] rfl
        refine va_calli (va_runV (As := [.ref rM_st, .int p0]) (rest := [.int x_4703]) ⟨hx, hb, hml, hown, hts⟩ (tX7_worthOf_x l dC dI _ oM iM_thrown rM_tape iM_taped iM_size iM_at iM_end iM_token iM_whole iM_nameSize iM_fault iM_place iM_trouble rM_letters iM_failed iM_hasCourt rM_r fM_r kM_r rM_fresh rM_told fM_told kM_told rM_read rM_st rM_undone rM_kept iM_undos iM_images rM_fresher iM_fresherSize iM_scale iM_night rM_heardRow rM_cutRow iM_breaths iM_cutMany iM_allBreaths rM_trial rM_words iM_fewestBreaths iM_orderMany iM_orderSum iM_leastOrder rM_often iM_setMany iM_someOf iM_allOf iM_allWeight iM_enoughWeight iM_worthSum iM_firstRest iM_leastDrawn rM_st fM_st kM_st p0 (by first | omega | decide) (by first | omega | decide) (by first | omega | decide) (by first | omega | decide) (by first | omega | decide) (by first | omega | decide) (by first | omega | decide) (by first | omega | decide) (by first | omega | decide) (by first | omega | decide) (by assumption) (by assumption) (by assumption) (by assumption) (by first | omega | decide | assumption | (have q0 := kc_0; have q1 := kc_1; omega) | (intro h; exact absurd h (by decide))) (by first | omega | decide | assumption | (have q0 := kc_0; have q1 := kc_1; omega) | (intro h; exact absurd h (by decide)))) (cwV 2 hts (wd_V wd_645 wd_646 wd_647 wd_5 (wd_c wd_648)) rfl rfl rfl (by decide +kernel) ⟨Nat.le_of_ble_eq_true rfl, Nat.le_of_ble_eq_true rfl⟩) ⟨Pw.fb, va_recv hK hP (ci := 7) (q0 := 0) rfl rfl, fun U hU hW => Pw.to (hP.sub [0, 1, 2, 3] rfl) (hD.sub [0, 1, 2, 3] (by decide) rfl) (hK.sub [0, 1, 2] rfl) hE hS hFc hU hW⟩ rfl rfl hl.1 rfl (lv_room (Nat.le_of_ble_eq_true rfl)) dX7_bestOf_55 ⟨Nat.le_of_ble_eq_true rfl, Nat.le_of_ble_eq_true rfl⟩) hS (fun q _ h => hFc q h) hFc (fun r u t H locs ht hvm hw hB hz1 hk1 hS => ?_)
        have hru9 := hw.2
        have hw := hw.1
        obtain ⟨hP, hD, hK⟩ := Bw.go (ws' := [(oc7 oM iM_thrown rM_tape iM_taped iM_size iM_at iM_end iM_token iM_whole iM_nameSize iM_fault iM_place iM_trouble rM_letters iM_failed iM_hasCourt rM_r rM_fresh rM_told rM_read rM_st rM_undone rM_kept iM_undos iM_images rM_fresher iM_fresherSize iM_scale iM_night rM_heardRow rM_cutRow iM_breaths iM_cutMany iM_allBreaths rM_trial rM_words iM_fewestBreaths iM_orderMany iM_orderSum iM_leastOrder rM_often iM_setMany iM_someOf iM_allOf iM_allWeight iM_enoughWeight iM_worthSum iM_firstRest iM_leastDrawn), (arI rM_r kM_r 287 fM_r), (arI rM_told kM_told 90 fM_told), (arI rM_st kM_st 90 fM_st)]) (tys' := [(kM_r, .int), (kM_told, .int), (kM_st, .int)]) hB rfl ht hvm hP hD hK [0, 1, 2, 3] [] rfl (by decide) (by decide) [] hk1 hFc rfl rfl rfl
        clear hz1 hk1 hvm ht hB
        obtain ⟨x_4704, rfl⟩ : ∃ z, z = r := ⟨_, rfl⟩
        have hG := hG.trans (lt_eq hru9.symm)
        have lx_4704 := hw.2
        refine lv_icmp_eq (tgt := 67) hx hb dX7_bestOf_58 (by decide) (fun c_4705 => ?_) (fun c_4705 => ?_)
        · skip
          have hG := hG.trans (if_pos c_4705)
          have gc_4705 := ti_eq c_4705 rfl rfl
          refine lv_aload_n hx hb dX7_bestOf_67 rfl (lv_at hl 1 rfl) ?_
          refine va_get (D := (dC, dI)) (ci := 7) (v := .ref rM_st) (C := RX7) (T := TX7) (N := 48) hx hb hts inX7 hown hK hP 0 rfl rfl 19 (by decide) (hts _ wd_159) (fun _ h9 => h9) rfl dX7_bestOf_68 ?_
          refine lv_iconst (v := 4) hx hb dX7_bestOf_71 (by decide) ?_
          refine lv_iload_n hx hb dX7_bestOf_72 rfl (lv_at hl 2 rfl) ?_
          refine lv_imul hx hb dX7_bestOf_73 ?_
          refine lv_topi (fun x_4706 ex_4706 => ?_)
          have hG := hG.trans (lt_eq ex_4706)
          have vx_4706 : x_4706.toInt = 4 * p0.toInt := by have q := ti_mul ex_4706 kc_4 rfl (by omega) (by omega); omega
          refine lv_iload_n hx hb dX7_bestOf_74 rfl (lv_at hl 0 rfl) ?_
          refine lv_iadd hx hb dX7_bestOf_75 ?_
          refine lv_topi (fun x_4707 ex_4707 => ?_)
          have hG := hG.trans (lt_eq ex_4707)
          have vx_4707 : x_4707.toInt = 4 * p0.toInt + z_4698.toInt := by have q := ti_add ex_4707 vx_4706 rfl (by omega) (by omega); omega
          refine va_iald hx hb hK hP 3 2 rfl rfl (ti_in vx_4707 (by omega) (by omega)) dX7_bestOf_76 ?_
          refine lv_topi (fun x_4708 ex_4708 => ?_)
          have hG := hG.trans (lt_eq ex_4708)
          have kx_4708 : (fM_st x_4707.toNatClampNeg).toInt = x_4708.toInt := by rw [ex_4708]
          have cx_4708 : (fM_st (4 * p0.toNatClampNeg + z_4698.toNatClampNeg)).toInt = x_4708.toInt := by rw [show 4 * p0.toNatClampNeg + z_4698.toNatClampNeg = x_4707.toNatClampNeg from by have q9 := ti_cl (x := x_4707) vx_4707 (by omega); have q_p0 := ti_cl (x := p0) rfl (by omega); have q_z_4698 := ti_cl (x := z_4698) rfl (by omega); omega]; exact kx_4708
          have wx_4708 := r_st.lt p0.toNatClampNeg (z_4698.toNatClampNeg) (by have q_1 := ti_cl (x := p0) rfl (by omega); have q_2 := ti_cl (x := z_4698) rfl (by omega); omega) (by have q_1 := ti_cl (x := p0) rfl (by omega); have q_2 := ti_cl (x := z_4698) rfl (by omega); omega)
          have wx_4708 : 0 ≤ x_4708.toInt ∧ x_4708.toInt < p0.toInt := by have q_1 := ti_cl (x := p0) rfl (by omega); have q_2 := ti_cl (x := z_4698) rfl (by omega); have q_3 := cx_4708; rw [show 4 * p0.toNatClampNeg + (z_4698.toNatClampNeg) = 4 * p0.toNatClampNeg + z_4698.toNatClampNeg from by omega] at wx_4708; omega
          exact W.iret hx hb hr (fun t ht hW => ⟨⟨_, 0, rfl, ⟨⟨trivial, (by first | omega | assumption)⟩, hG⟩, Bw.to (hP.sub [0, 1, 2, 3] rfl) (hD.sub [0, 1, 2, 3] (by decide) rfl) (hK.sub [0, 1, 2] rfl) ht hW⟩, hS.F ht⟩) hS.2.2 dX7_bestOf_77
        · skip
          have hG := hG.trans (if_neg c_4705)
          have gc_4705 := ti_ne c_4705 rfl rfl
          obtain ⟨x_4709, ex_4709⟩ : ∃ z : Int32, z = z_4698 + Int32.ofInt 1 := ⟨_, rfl⟩
          have hG := hG.trans (lt_eq ex_4709)
          have vx_4709 : x_4709.toInt = z_4698.toInt + 1 := by have q := ti_add (y := 1) ex_4709 rfl kc_1 (by omega) (by omega); omega
          refine lv_iinc (v := x_4709) (lv' := [(2, .int x_4709), (0, .ref oM), (1, .int p0)]) hx hb dX7_bestOf_61 hl (k := 0) rfl ex_4709.symm (by decide) rfl (fun ls hl => ?_)
          refine lv_goto (tgt := 31) hx hb dX7_bestOf_64 (by decide) ?_
          have ex9 : BestJ fM_r fM_told fM_st iM_scale p0.toNatClampNeg x_4709.toInt := best_go (n := z_4698.toNatClampNeg) hi1_n_4699 (by have q1 := ti_cl (x := z_4698) rfl (by omega); omega) (by have q := cx_4702; rw [show 4 * p0.toNatClampNeg + z_4698.toNatClampNeg = 4 * p0.toNatClampNeg + z_4698.toNatClampNeg from by omega]; exact q) lx_4703 lx_4704 (by omega) (by omega)
          exact ih_n_4699 x_4709 _ _ _  (by have q9 := best_lt ex9; omega) ex9 (by omega) hG (hP.sub [0, 1, 2, 3] rfl) (hD.sub [0, 1, 2, 3] (by decide) rfl) hS (lv_sub hl [0, 1, 2] rfl)
    have be9 := best_ex (ft := fM_told) (sc := iM_scale) r_R r_st r_wst (by omega) (k := p0.toNatClampNeg) (by omega) (by omega)
    have mm9 : 1 ≤ (fM_r (27 + p0.toNatClampNeg)).toInt := in_p0 (by omega)
    have bf9 : BestJ fM_r fM_told fM_st iM_scale p0.toNatClampNeg (0 : Int32).toInt := best_start (by have q := kc_0; omega) be9
    clear be9
    exact key_n_4699 ((((fM_r (27 + p0.toNatClampNeg)).toInt - (0 : Int32).toInt).toNat) + 1) 0 _ _ _  (by first | omega | decide | assumption | (have q0 := kc_0; have q1 := kc_1; omega)) (by first | omega | decide | assumption | (have q0 := kc_0; have q1 := kc_1; omega)) (by omega) hG hP hD hS hl
  · skip
    have hG := hG.trans (if_neg c_4697)
    have gc_4697 := ti_ne c_4697 rfl kc_1
    refine lv_aload_n hx hb dX7_bestOf_13 rfl (lv_at hl 0 rfl) ?_
    refine va_get (D := (dC, dI)) (ci := 7) (v := .ref rM_r) (C := RX7) (T := TX7) (N := 48) hx hb hts inX7 hown hK hP 0 rfl rfl 15 (by decide) (hts _ wd_155) (fun _ h9 => h9) rfl dX7_bestOf_14 ?_
    refine lv_bipush (v := 9) hx hb dX7_bestOf_17 (by decide) ?_
    refine lv_iload_n hx hb dX7_bestOf_19 rfl (lv_at hl 1 rfl) ?_
    refine lv_iadd hx hb dX7_bestOf_20 ?_
    refine lv_topi (fun x_4710 ex_4710 => ?_)
    have hG := hG.trans (lt_eq ex_4710)
    have vx_4710 : x_4710.toInt = p0.toInt + 9 := by have q := ti_add ex_4710 kc_9 rfl (by omega) (by omega); omega
    refine va_iald hx hb hK hP 1 0 rfl rfl (ti_in vx_4710 (by omega) (by omega)) dX7_bestOf_21 ?_
    refine lv_topi (fun x_4711 ex_4711 => ?_)
    have hG := hG.trans (lt_eq ex_4711)
    have kx_4711 : (fM_r x_4710.toNatClampNeg).toInt = x_4711.toInt := by rw [ex_4711]
    have cx_4711 : (fM_r (9 + p0.toNatClampNeg)).toInt = x_4711.toInt := by rw [show 9 + p0.toNatClampNeg = x_4710.toNatClampNeg from by have q9 := ti_cl (x := x_4710) vx_4710 (by omega); have q_p0 := ti_cl (x := p0) rfl (by omega); omega]; exact kx_4711
    have sx_4711 := r_R.kind x_4710.toNatClampNeg (by have q9 := ti_cl (x := x_4710) vx_4710 (by omega); omega) (by have q9 := ti_cl (x := x_4710) vx_4710 (by omega); omega)
    refine lv_iconst (v := 2) hx hb dX7_bestOf_22 (by decide) ?_
    refine lv_icmp_eq (tgt := 29) hx hb dX7_bestOf_23 (by decide) (fun c_4712 => ?_) (fun c_4712 => ?_)
    · skip
      have hG := hG.trans (if_pos c_4712)
      have gc_4712 := ti_eq c_4712 rfl kc_2
      refine lv_iconst (v := 0) hx hb dX7_bestOf_29 (by decide) ?_
      refine lv_istore_n (lv' := [(2, .int 0), (0, .ref oM), (1, .int p0)]) hx hb dX7_bestOf_30 rfl hl (by decide) rfl (fun ls hl => ?_)
      have hl := lv_sub hl (l' := [(2, .int 0), (0, .ref oM), (1, .int p0)]) [0, 1, 2] rfl
      have key_n_4714 : ∀ (n_4714 : Nat) (z_4713 : Int32) (H : Heap) (locs : List Loc) (ls : Array Slot), (0 ≤ z_4713.toInt ∧ z_4713.toInt < (fM_r (27 + p0.toNatClampNeg)).toInt) → (BestJ fM_r fM_told fM_st iM_scale p0.toNatClampNeg z_4713.toInt) → ((fM_r (27 + p0.toNatClampNeg)).toInt - z_4713.toInt).toNat < n_4714 → (PX7_bestOf fM_r fM_told fM_st iM_scale iM_night p0 = HX7_bestOf_0 fM_r fM_told fM_st iM_scale iM_night p0 n_4714 z_4713) → va_P (dC, dI) vwCl [(oc7 oM iM_thrown rM_tape iM_taped iM_size iM_at iM_end iM_token iM_whole iM_nameSize iM_fault iM_place iM_trouble rM_letters iM_failed iM_hasCourt rM_r rM_fresh rM_told rM_read rM_st rM_undone rM_kept iM_undos iM_images rM_fresher iM_fresherSize iM_scale iM_night rM_heardRow rM_cutRow iM_breaths iM_cutMany iM_allBreaths rM_trial rM_words iM_fewestBreaths iM_orderMany iM_orderSum iM_leastOrder rM_often iM_setMany iM_someOf iM_allOf iM_allWeight iM_enoughWeight iM_worthSum iM_firstRest iM_leastDrawn), (arI rM_r kM_r 287 fM_r), (arI rM_told kM_told 90 fM_told), (arI rM_st kM_st 90 fM_st)] H → va_D A [(oc7 oM iM_thrown rM_tape iM_taped iM_size iM_at iM_end iM_token iM_whole iM_nameSize iM_fault iM_place iM_trouble rM_letters iM_failed iM_hasCourt rM_r rM_fresh rM_told rM_read rM_st rM_undone rM_kept iM_undos iM_images rM_fresher iM_fresherSize iM_scale iM_night rM_heardRow rM_cutRow iM_breaths iM_cutMany iM_allBreaths rM_trial rM_words iM_fewestBreaths iM_orderMany iM_orderSum iM_leastOrder rM_often iM_setMany iM_someOf iM_allOf iM_allWeight iM_enoughWeight iM_worthSum iM_firstRest iM_leastDrawn), (arI rM_r kM_r 287 fM_r), (arI rM_told kM_told 90 fM_told), (arI rM_st kM_st 90 fM_st)] → va_S A s.heap H locs → lv_has ls 3 [(2, .int z_4713), (0, .ref oM), (1, .int p0)] → W p l e (headSpec (Cond.code yX7_bestOf cX7_bestOf 3 (some .int) :: wG) ({ frames := 21, cells := 0, slots := 0, locals := 564 })).room s m ([.ref oM, .int p0] : List Value).toArray below meth c H locs 0 0 (MQ below (va_Qi (fun (r : Int32) (_ : Nat) => (True ∧ (-2 ≤ r.toInt ∧ r.toInt < p0.toInt ∧ r.toInt ≤ 17)) ∧ PX7_bestOf fM_r fM_told fM_st iM_scale iM_night p0 = r) (fun (_ : Nat) (t : State) => Bw dC dI A [(oc7 oM iM_thrown rM_tape iM_taped iM_size iM_at iM_end iM_token iM_whole iM_nameSize iM_fault iM_place iM_trouble rM_letters iM_failed iM_hasCourt rM_r rM_fresh rM_told rM_read rM_st rM_undone rM_kept iM_undos iM_images rM_fresher iM_fresherSize iM_scale iM_night rM_heardRow rM_cutRow iM_breaths iM_cutMany iM_allBreaths rM_trial rM_words iM_fewestBreaths iM_orderMany iM_orderSum iM_leastOrder rM_often iM_setMany iM_someOf iM_allOf iM_allWeight iM_enoughWeight iM_worthSum iM_firstRest iM_leastDrawn), (arI rM_r kM_r 287 fM_r), (arI rM_told kM_told 90 fM_told), (arI rM_st kM_st 90 fM_st)] [(kM_r, .int), (kM_told, .int), (kM_st, .int)] t) A) ([.ref oM, .int p0] : List Value).toArray s 0 0 A) (F0 m 31 ls []) := by
        intro n_4714
        induction n_4714 with
        | zero => intro z_4713 H locs ls hi0_n_4714 hi1_n_4714 hm; exact absurd hm (by omega)
        | succ n_4714 ih_n_4714 =>
          intro z_4713 H locs ls hi0_n_4714 hi1_n_4714 hm hG hP hD hS hl
          have hG := hG.trans (HX7_bestOf_0_eq _ _ _ _ _ _ _ _)
          refine lv_aload_n hx hb dX7_bestOf_31 rfl (lv_at hl 1 rfl) ?_
          refine lv_aload_n hx hb dX7_bestOf_32 rfl (lv_at hl 1 rfl) ?_
          refine va_get (D := (dC, dI)) (ci := 7) (v := .ref rM_st) (C := RX7) (T := TX7) (N := 48) hx hb hts inX7 hown hK hP 0 rfl rfl 19 (by decide) (hts _ wd_159) (fun _ h9 => h9) rfl dX7_bestOf_33 ?_
          refine lv_aload_n hx hb dX7_bestOf_36 rfl (lv_at hl 1 rfl) ?_
          refine va_get (D := (dC, dI)) (ci := 7) (v := .ref rM_st) (C := RX7) (T := TX7) (N := 48) hx hb hts inX7 hown hK hP 0 rfl rfl 19 (by decide) (hts _ wd_159) (fun _ h9 => h9) rfl dX7_bestOf_37 ?_
          refine lv_iconst (v := 4) hx hb dX7_bestOf_40 (by decide) ?_
          refine lv_iload_n hx hb dX7_bestOf_41 rfl (lv_at hl 2 rfl) ?_
          refine lv_imul hx hb dX7_bestOf_42 ?_
          refine lv_topi (fun x_4715 ex_4715 => ?_)
          have hG := hG.trans (lt_eq ex_4715)
          have vx_4715 : x_4715.toInt = 4 * p0.toInt := by have q := ti_mul ex_4715 kc_4 rfl (by omega) (by omega); omega
          refine lv_iload_n hx hb dX7_bestOf_43 rfl (lv_at hl 0 rfl) ?_
          refine lv_iadd hx hb dX7_bestOf_44 ?_
          refine lv_topi (fun x_4716 ex_4716 => ?_)
          have hG := hG.trans (lt_eq ex_4716)
          have vx_4716 : x_4716.toInt = 4 * p0.toInt + z_4713.toInt := by have q := ti_add ex_4716 vx_4715 rfl (by omega) (by omega); omega
          refine va_iald hx hb hK hP 3 2 rfl rfl (ti_in vx_4716 (by omega) (by omega)) dX7_bestOf_45 ?_
          refine lv_topi (fun x_4717 ex_4717 => ?_)
          have hG := hG.trans (lt_eq ex_4717)
          have kx_4717 : (fM_st x_4716.toNatClampNeg).toInt = x_4717.toInt := by rw [ex_4717]
          have cx_4717 : (fM_st (4 * p0.toNatClampNeg + z_4713.toNatClampNeg)).toInt = x_4717.toInt := by rw [show 4 * p0.toNatClampNeg + z_4713.toNatClampNeg = x_4716.toNatClampNeg from by have q9 := ti_cl (x := x_4716) vx_4716 (by omega); have q_p0 := ti_cl (x := p0) rfl (by omega); have q_z_4713 := ti_cl (x := z_4713) rfl (by omega); omega]; exact kx_4717
          have wx_4717 := r_st.lt p0.toNatClampNeg (z_4713.toNatClampNeg) (by have q_1 := ti_cl (x := p0) rfl (by omega); have q_2 := ti_cl (x := z_4713) rfl (by omega); omega) (by have q_1 := ti_cl (x := p0) rfl (by omega); have q_2 := ti_cl (x := z_4713) rfl (by omega); omega)
          have wx_4717 : 0 ≤ x_4717.toInt ∧ x_4717.toInt < p0.toInt := by have q_1 := ti_cl (x := p0) rfl (by omega); have q_2 := ti_cl (x := z_4713) rfl (by omega); have q_3 := cx_4717; rw [show 4 * p0.toNatClampNeg + (z_4713.toNatClampNeg) = 4 * p0.toNatClampNeg + z_4713.toNatClampNeg from by omega] at wx_4717; omega
          have hFc := va_free (wc := [(oc7 oM iM_thrown rM_tape iM_taped iM_size iM_at iM_end iM_token iM_whole iM_nameSize iM_fault iM_place iM_trouble rM_letters iM_failed iM_hasCourt rM_r rM_fresh rM_told rM_read rM_st rM_undone rM_kept iM_undos iM_images rM_fresher iM_fresherSize iM_scale iM_night rM_heardRow rM_cutRow iM_breaths iM_cutMany iM_allBreaths rM_trial rM_words iM_fewestBreaths iM_orderMany iM_orderSum iM_leastOrder rM_often iM_setMany iM_someOf iM_allOf iM_allWeight iM_enoughWeight iM_worthSum iM_firstRest iM_leastDrawn), (arI rM_r kM_r 287 fM_r), (arI rM_told kM_told 90 fM_told), (arI rM_st kM_st 90 fM_st)]) hD hS hA [0, 1, 2, 3] rfl
          refine va_calli (va_runV (As := [.ref rM_st, .int x_4717]) (rest := []) ⟨hx, hb, hml, hown, hts⟩ (tX7_worthOf_x l dC dI _ oM iM_thrown rM_tape iM_taped iM_size iM_at iM_end iM_token iM_whole iM_nameSize iM_fault iM_place iM_trouble rM_letters iM_failed iM_hasCourt rM_r fM_r kM_r rM_fresh rM_told fM_told kM_told rM_read rM_st rM_undone rM_kept iM_undos iM_images rM_fresher iM_fresherSize iM_scale iM_night rM_heardRow rM_cutRow iM_breaths iM_cutMany iM_allBreaths rM_trial rM_words iM_fewestBreaths iM_orderMany iM_orderSum iM_leastOrder rM_often iM_setMany iM_someOf iM_allOf iM_allWeight iM_enoughWeight iM_worthSum iM_firstRest iM_leastDrawn rM_st fM_st kM_st x_4717 (by first | omega | decide) (by first | omega | decide) (by first | omega | decide) (by first | omega | decide) (by first | omega | decide) (by first | omega | decide) (by first | omega | decide) (by first | omega | decide) (by first | omega | decide) (by first | omega | decide) (by assumption) (by assumption) (by assumption) (by assumption) (by first | omega | decide | assumption | (have q0 := kc_0; have q1 := kc_1; omega) | (intro h; exact absurd h (by decide))) (by first | omega | decide | assumption | (have q0 := kc_0; have q1 := kc_1; omega) | (intro h; exact absurd h (by decide)))) (cwV 2 hts (wd_V wd_645 wd_646 wd_647 wd_5 (wd_c wd_648)) rfl rfl rfl (by decide +kernel) ⟨Nat.le_of_ble_eq_true rfl, Nat.le_of_ble_eq_true rfl⟩) ⟨Pw.fb, va_recv hK hP (ci := 7) (q0 := 0) rfl rfl, fun U hU hW => Pw.to (hP.sub [0, 1, 2, 3] rfl) (hD.sub [0, 1, 2, 3] (by decide) rfl) (hK.sub [0, 1, 2] rfl) hE hS hFc hU hW⟩ rfl rfl hl.1 rfl (lv_room (Nat.le_of_ble_eq_true rfl)) dX7_bestOf_46 ⟨Nat.le_of_ble_eq_true rfl, Nat.le_of_ble_eq_true rfl⟩) hS (fun q _ h => hFc q h) hFc (fun r u t H locs ht hvm hw hB hz1 hk1 hS => ?_)
          have hru9 := hw.2
          have hw := hw.1
          obtain ⟨hP, hD, hK⟩ := Bw.go (ws' := [(oc7 oM iM_thrown rM_tape iM_taped iM_size iM_at iM_end iM_token iM_whole iM_nameSize iM_fault iM_place iM_trouble rM_letters iM_failed iM_hasCourt rM_r rM_fresh rM_told rM_read rM_st rM_undone rM_kept iM_undos iM_images rM_fresher iM_fresherSize iM_scale iM_night rM_heardRow rM_cutRow iM_breaths iM_cutMany iM_allBreaths rM_trial rM_words iM_fewestBreaths iM_orderMany iM_orderSum iM_leastOrder rM_often iM_setMany iM_someOf iM_allOf iM_allWeight iM_enoughWeight iM_worthSum iM_firstRest iM_leastDrawn), (arI rM_r kM_r 287 fM_r), (arI rM_told kM_told 90 fM_told), (arI rM_st kM_st 90 fM_st)]) (tys' := [(kM_r, .int), (kM_told, .int), (kM_st, .int)]) hB rfl ht hvm hP hD hK [0, 1, 2, 3] [] rfl (by decide) (by decide) [] hk1 hFc rfl rfl rfl
          clear hz1 hk1 hvm ht hB
          obtain ⟨x_4718, rfl⟩ : ∃ z, z = r := ⟨_, rfl⟩
          have hG := hG.trans (lt_eq hru9.symm)
          have lx_4718 := hw.2
          refine lv_aload_n hx hb dX7_bestOf_49 rfl (lv_at hl 1 rfl) ?_
          refine lv_aload_n hx hb dX7_bestOf_50 rfl (lv_at hl 1 rfl) ?_
          refine va_get (D := (dC, dI)) (ci := 7) (v := .ref rM_st) (C := RX7) (T := TX7) (N := 48) hx hb hts inX7 hown hK hP 0 rfl rfl 19 (by decide) (hts _ wd_159) (fun _ h9 => h9) rfl dX7_bestOf_51 ?_
          refine lv_iload_n hx hb dX7_bestOf_54 rfl (lv_at hl 2 rfl) ?_
          have hFc := va_free (wc := [(oc7 oM iM_thrown rM_tape iM_taped iM_size iM_at iM_end iM_token iM_whole iM_nameSize iM_fault iM_place iM_trouble rM_letters iM_failed iM_hasCourt rM_r rM_fresh rM_told rM_read rM_st rM_undone rM_kept iM_undos iM_images rM_fresher iM_fresherSize iM_scale iM_night rM_heardRow rM_cutRow iM_breaths iM_cutMany iM_allBreaths rM_trial rM_words iM_fewestBreaths iM_orderMany iM_orderSum iM_leastOrder rM_often iM_setMany iM_someOf iM_allOf iM_allWeight iM_enoughWeight iM_worthSum iM_firstRest iM_leastDrawn), (arI rM_r kM_r 287 fM_r), (arI rM_told kM_told 90 fM_told), (arI rM_st kM_st 90 fM_st)]) hD hS hA [0, 1, 2, 3] rfl
          refine va_calli (va_runV (As := [.ref rM_st, .int p0]) (rest := [.int x_4718]) ⟨hx, hb, hml, hown, hts⟩ (tX7_worthOf_x l dC dI _ oM iM_thrown rM_tape iM_taped iM_size iM_at iM_end iM_token iM_whole iM_nameSize iM_fault iM_place iM_trouble rM_letters iM_failed iM_hasCourt rM_r fM_r kM_r rM_fresh rM_told fM_told kM_told rM_read rM_st rM_undone rM_kept iM_undos iM_images rM_fresher iM_fresherSize iM_scale iM_night rM_heardRow rM_cutRow iM_breaths iM_cutMany iM_allBreaths rM_trial rM_words iM_fewestBreaths iM_orderMany iM_orderSum iM_leastOrder rM_often iM_setMany iM_someOf iM_allOf iM_allWeight iM_enoughWeight iM_worthSum iM_firstRest iM_leastDrawn rM_st fM_st kM_st p0 (by first | omega | decide) (by first | omega | decide) (by first | omega | decide) (by first | omega | decide) (by first | omega | decide) (by first | omega | decide) (by first | omega | decide) (by first | omega | decide) (by first | omega | decide) (by first | omega | decide) (by assumption) (by assumption) (by assumption) (by assumption) (by first | omega | decide | assumption | (have q0 := kc_0; have q1 := kc_1; omega) | (intro h; exact absurd h (by decide))) (by first | omega | decide | assumption | (have q0 := kc_0; have q1 := kc_1; omega) | (intro h; exact absurd h (by decide)))) (cwV 2 hts (wd_V wd_645 wd_646 wd_647 wd_5 (wd_c wd_648)) rfl rfl rfl (by decide +kernel) ⟨Nat.le_of_ble_eq_true rfl, Nat.le_of_ble_eq_true rfl⟩) ⟨Pw.fb, va_recv hK hP (ci := 7) (q0 := 0) rfl rfl, fun U hU hW => Pw.to (hP.sub [0, 1, 2, 3] rfl) (hD.sub [0, 1, 2, 3] (by decide) rfl) (hK.sub [0, 1, 2] rfl) hE hS hFc hU hW⟩ rfl rfl hl.1 rfl (lv_room (Nat.le_of_ble_eq_true rfl)) dX7_bestOf_55 ⟨Nat.le_of_ble_eq_true rfl, Nat.le_of_ble_eq_true rfl⟩) hS (fun q _ h => hFc q h) hFc (fun r u t H locs ht hvm hw hB hz1 hk1 hS => ?_)
          have hru9 := hw.2
          have hw := hw.1
          obtain ⟨hP, hD, hK⟩ := Bw.go (ws' := [(oc7 oM iM_thrown rM_tape iM_taped iM_size iM_at iM_end iM_token iM_whole iM_nameSize iM_fault iM_place iM_trouble rM_letters iM_failed iM_hasCourt rM_r rM_fresh rM_told rM_read rM_st rM_undone rM_kept iM_undos iM_images rM_fresher iM_fresherSize iM_scale iM_night rM_heardRow rM_cutRow iM_breaths iM_cutMany iM_allBreaths rM_trial rM_words iM_fewestBreaths iM_orderMany iM_orderSum iM_leastOrder rM_often iM_setMany iM_someOf iM_allOf iM_allWeight iM_enoughWeight iM_worthSum iM_firstRest iM_leastDrawn), (arI rM_r kM_r 287 fM_r), (arI rM_told kM_told 90 fM_told), (arI rM_st kM_st 90 fM_st)]) (tys' := [(kM_r, .int), (kM_told, .int), (kM_st, .int)]) hB rfl ht hvm hP hD hK [0, 1, 2, 3] [] rfl (by decide) (by decide) [] hk1 hFc rfl rfl rfl
          clear hz1 hk1 hvm ht hB
          obtain ⟨x_4719, rfl⟩ : ∃ z, z = r := ⟨_, rfl⟩
          have hG := hG.trans (lt_eq hru9.symm)
          have lx_4719 := hw.2
          refine lv_icmp_eq (tgt := 67) hx hb dX7_bestOf_58 (by decide) (fun c_4720 => ?_) (fun c_4720 => ?_)
          · skip
            have hG := hG.trans (if_pos c_4720)
            have gc_4720 := ti_eq c_4720 rfl rfl
            refine lv_aload_n hx hb dX7_bestOf_67 rfl (lv_at hl 1 rfl) ?_
            refine va_get (D := (dC, dI)) (ci := 7) (v := .ref rM_st) (C := RX7) (T := TX7) (N := 48) hx hb hts inX7 hown hK hP 0 rfl rfl 19 (by decide) (hts _ wd_159) (fun _ h9 => h9) rfl dX7_bestOf_68 ?_
            refine lv_iconst (v := 4) hx hb dX7_bestOf_71 (by decide) ?_
            refine lv_iload_n hx hb dX7_bestOf_72 rfl (lv_at hl 2 rfl) ?_
            refine lv_imul hx hb dX7_bestOf_73 ?_
            refine lv_topi (fun x_4721 ex_4721 => ?_)
            have hG := hG.trans (lt_eq ex_4721)
            have vx_4721 : x_4721.toInt = 4 * p0.toInt := by have q := ti_mul ex_4721 kc_4 rfl (by omega) (by omega); omega
            refine lv_iload_n hx hb dX7_bestOf_74 rfl (lv_at hl 0 rfl) ?_
            refine lv_iadd hx hb dX7_bestOf_75 ?_
            refine lv_topi (fun x_4722 ex_4722 => ?_)
            have hG := hG.trans (lt_eq ex_4722)
            have vx_4722 : x_4722.toInt = 4 * p0.toInt + z_4713.toInt := by have q := ti_add ex_4722 vx_4721 rfl (by omega) (by omega); omega
            refine va_iald hx hb hK hP 3 2 rfl rfl (ti_in vx_4722 (by omega) (by omega)) dX7_bestOf_76 ?_
            refine lv_topi (fun x_4723 ex_4723 => ?_)
            have hG := hG.trans (lt_eq ex_4723)
            have kx_4723 : (fM_st x_4722.toNatClampNeg).toInt = x_4723.toInt := by rw [ex_4723]
            have cx_4723 : (fM_st (4 * p0.toNatClampNeg + z_4713.toNatClampNeg)).toInt = x_4723.toInt := by rw [show 4 * p0.toNatClampNeg + z_4713.toNatClampNeg = x_4722.toNatClampNeg from by have q9 := ti_cl (x := x_4722) vx_4722 (by omega); have q_p0 := ti_cl (x := p0) rfl (by omega); have q_z_4713 := ti_cl (x := z_4713) rfl (by omega); omega]; exact kx_4723
            have wx_4723 := r_st.lt p0.toNatClampNeg (z_4713.toNatClampNeg) (by have q_1 := ti_cl (x := p0) rfl (by omega); have q_2 := ti_cl (x := z_4713) rfl (by omega); omega) (by have q_1 := ti_cl (x := p0) rfl (by omega); have q_2 := ti_cl (x := z_4713) rfl (by omega); omega)
            have wx_4723 : 0 ≤ x_4723.toInt ∧ x_4723.toInt < p0.toInt := by have q_1 := ti_cl (x := p0) rfl (by omega); have q_2 := ti_cl (x := z_4713) rfl (by omega); have q_3 := cx_4723; rw [show 4 * p0.toNatClampNeg + (z_4713.toNatClampNeg) = 4 * p0.toNatClampNeg + z_4713.toNatClampNeg from by omega] at wx_4723; omega
            exact W.iret hx hb hr (fun t ht hW => ⟨⟨_, 0, rfl, ⟨⟨trivial, (by first | omega | assumption)⟩, hG⟩, Bw.to (hP.sub [0, 1, 2, 3] rfl) (hD.sub [0, 1, 2, 3] (by decide) rfl) (hK.sub [0, 1, 2] rfl) ht hW⟩, hS.F ht⟩) hS.2.2 dX7_bestOf_77
          · skip
            have hG := hG.trans (if_neg c_4720)
            have gc_4720 := ti_ne c_4720 rfl rfl
            obtain ⟨x_4724, ex_4724⟩ : ∃ z : Int32, z = z_4713 + Int32.ofInt 1 := ⟨_, rfl⟩
            have hG := hG.trans (lt_eq ex_4724)
            have vx_4724 : x_4724.toInt = z_4713.toInt + 1 := by have q := ti_add (y := 1) ex_4724 rfl kc_1 (by omega) (by omega); omega
            refine lv_iinc (v := x_4724) (lv' := [(2, .int x_4724), (0, .ref oM), (1, .int p0)]) hx hb dX7_bestOf_61 hl (k := 0) rfl ex_4724.symm (by decide) rfl (fun ls hl => ?_)
            refine lv_goto (tgt := 31) hx hb dX7_bestOf_64 (by decide) ?_
            have ex9 : BestJ fM_r fM_told fM_st iM_scale p0.toNatClampNeg x_4724.toInt := best_go (n := z_4713.toNatClampNeg) hi1_n_4714 (by have q1 := ti_cl (x := z_4713) rfl (by omega); omega) (by have q := cx_4717; rw [show 4 * p0.toNatClampNeg + z_4713.toNatClampNeg = 4 * p0.toNatClampNeg + z_4713.toNatClampNeg from by omega]; exact q) lx_4718 lx_4719 (by omega) (by omega)
            exact ih_n_4714 x_4724 _ _ _  (by have q9 := best_lt ex9; omega) ex9 (by omega) hG (hP.sub [0, 1, 2, 3] rfl) (hD.sub [0, 1, 2, 3] (by decide) rfl) hS (lv_sub hl [0, 1, 2] rfl)
      have be9 := best_ex (ft := fM_told) (sc := iM_scale) r_R r_st r_wst (by omega) (k := p0.toNatClampNeg) (by omega) (by omega)
      have mm9 : 1 ≤ (fM_r (27 + p0.toNatClampNeg)).toInt := in_p0 (by omega)
      have bf9 : BestJ fM_r fM_told fM_st iM_scale p0.toNatClampNeg (0 : Int32).toInt := best_start (by have q := kc_0; omega) be9
      clear be9
      exact key_n_4714 ((((fM_r (27 + p0.toNatClampNeg)).toInt - (0 : Int32).toInt).toNat) + 1) 0 _ _ _  (by first | omega | decide | assumption | (have q0 := kc_0; have q1 := kc_1; omega)) (by first | omega | decide | assumption | (have q0 := kc_0; have q1 := kc_1; omega)) (by omega) hG hP hD hS hl
    · skip
      have hG := hG.trans (if_neg c_4712)
      have gc_4712 := ti_ne c_4712 rfl kc_2
      refine lv_bipush (v := (-2)) hx hb dX7_bestOf_26 (by decide) ?_
      exact W.iret hx hb hr (fun t ht hW => ⟨⟨_, 0, rfl, ⟨⟨trivial, (by have q := kc_m2; first | omega | assumption)⟩, hG⟩, Bw.to (hP.sub [0, 1, 2, 3] rfl) (hD.sub [0, 1, 2, 3] (by decide) rfl) (hK.sub [0, 1, 2] rfl) ht hW⟩, hS.F ht⟩) hS.2.2 dX7_bestOf_28
