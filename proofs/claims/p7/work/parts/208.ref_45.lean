set_option maxHeartbeats 4000000 in
set_option maxRecDepth 100000 in
theorem tX7_weightsOf_x (l : Launch) (dC : Nat → ClassId) (dI : Nat → Nat → Nat) (sz : Nat) (oM : Nat) (iM_thrown : Int32) (rM_tape : Nat) (iM_taped : Int32) (iM_size : Int32) (iM_at : Int32) (iM_end : Int32) (iM_token : Int32) (iM_whole : Int32) (iM_nameSize : Int32) (iM_fault : Int32) (iM_place : Int32) (iM_trouble : Int32) (rM_letters : Nat) (iM_failed : Int32) (iM_hasCourt : Int32) (rM_r : Nat) (fM_r : Nat → Int32) (kM_r : ClassId) (rM_fresh : Nat) (rM_told : Nat) (rM_read : Nat) (rM_st : Nat) (rM_undone : Nat) (rM_kept : Nat) (iM_undos : Int32) (iM_images : Int32) (rM_fresher : Nat) (iM_fresherSize : Int32) (iM_scale : Int32) (iM_night : Int32) (rM_heardRow : Nat) (rM_cutRow : Nat) (iM_breaths : Int32) (iM_cutMany : Int32) (iM_allBreaths : Int32) (rM_trial : Nat) (rM_words : Nat) (iM_fewestBreaths : Int32) (iM_orderMany : Int32) (iM_orderSum : Int32) (iM_leastOrder : Int32) (rM_often : Nat) (iM_setMany : Int32) (iM_someOf : Int32) (iM_allOf : Int32) (iM_allWeight : Int64) (iM_enoughWeight : Int64) (iM_worthSum : Int64) (iM_firstRest : Int32) (iM_leastDrawn : Int32) (p0 : Int32) (b_iM_taped : 0 ≤ iM_taped.toInt ∧ iM_taped.toInt ≤ 900) (b_iM_size : 0 ≤ iM_size.toInt ∧ iM_size.toInt ≤ 900) (b_iM_end : 0 ≤ iM_end.toInt ∧ iM_end.toInt ≤ 900) (b_iM_failed : 0 ≤ iM_failed.toInt ∧ iM_failed.toInt ≤ 1) (b_iM_hasCourt : 0 ≤ iM_hasCourt.toInt ∧ iM_hasCourt.toInt ≤ 1) (b_iM_undos : 0 ≤ iM_undos.toInt ∧ iM_undos.toInt ≤ 16) (b_iM_images : 0 ≤ iM_images.toInt ∧ iM_images.toInt ≤ 3) (b_iM_scale : 1 ≤ iM_scale.toInt ∧ iM_scale.toInt ≤ 1296) (b_iM_breaths : 0 ≤ iM_breaths.toInt ∧ iM_breaths.toInt ≤ 399) (b_iM_cutMany : 0 ≤ iM_cutMany.toInt ∧ iM_cutMany.toInt ≤ 399) (r_R : ROk fM_r) (r_C : iM_hasCourt.toInt ≤ 0 ∨ (1 ≤ (fM_r 1).toInt ∧ 0 ≤ (fM_r 6).toInt ∧ (fM_r 6).toInt < (fM_r 1).toInt)) (hk0 : 0 ≤ p0.toInt ∧ p0.toInt < (fM_r 1).toInt) (hk3 : (fM_r (9 + p0.toNatClampNeg)).toInt = 3) : Met l yX7_weightsOf (Cond.code yX7_weightsOf cX7_weightsOf 4 (some .int) :: wG) ({ frames := 0, cells := 0, slots := 0, locals := 0 }) (va_Pc [.ref oM, .int p0] (Pw dC dI sz [(oc7 oM iM_thrown rM_tape iM_taped iM_size iM_at iM_end iM_token iM_whole iM_nameSize iM_fault iM_place iM_trouble rM_letters iM_failed iM_hasCourt rM_r rM_fresh rM_told rM_read rM_st rM_undone rM_kept iM_undos iM_images rM_fresher iM_fresherSize iM_scale iM_night rM_heardRow rM_cutRow iM_breaths iM_cutMany iM_allBreaths rM_trial rM_words iM_fewestBreaths iM_orderMany iM_orderSum iM_leastOrder rM_often iM_setMany iM_someOf iM_allOf iM_allWeight iM_enoughWeight iM_worthSum iM_firstRest iM_leastDrawn), (arI rM_r kM_r 287 fM_r)] [(kM_r, .int)])) (va_Qi (fun (r : Int32) (_ : Nat) => True ∧ ((1 ≤ r.toInt ∧ r.toInt ≤ 36) ∧ r = sum32 (fun i => fM_r (45 + 4 * p0.toNatClampNeg + i)) (fM_r (27 + p0.toNatClampNeg)).toInt.toNat)) (fun (_ : Nat) (t : State) => Bw dC dI (va_A [(oc7 oM iM_thrown rM_tape iM_taped iM_size iM_at iM_end iM_token iM_whole iM_nameSize iM_fault iM_place iM_trouble rM_letters iM_failed iM_hasCourt rM_r rM_fresh rM_told rM_read rM_st rM_undone rM_kept iM_undos iM_images rM_fresher iM_fresherSize iM_scale iM_night rM_heardRow rM_cutRow iM_breaths iM_cutMany iM_allBreaths rM_trial rM_words iM_fewestBreaths iM_orderMany iM_orderSum iM_leastOrder rM_often iM_setMany iM_someOf iM_allOf iM_allWeight iM_enoughWeight iM_worthSum iM_firstRest iM_leastDrawn), (arI rM_r kM_r 287 fM_r)] sz) [(oc7 oM iM_thrown rM_tape iM_taped iM_size iM_at iM_end iM_token iM_whole iM_nameSize iM_fault iM_place iM_trouble rM_letters iM_failed iM_hasCourt rM_r rM_fresh rM_told rM_read rM_st rM_undone rM_kept iM_undos iM_images rM_fresher iM_fresherSize iM_scale iM_night rM_heardRow rM_cutRow iM_breaths iM_cutMany iM_allBreaths rM_trial rM_words iM_fewestBreaths iM_orderMany iM_orderSum iM_leastOrder rM_often iM_setMany iM_someOf iM_allOf iM_allWeight iM_enoughWeight iM_worthSum iM_firstRest iM_leastDrawn), (arI rM_r kM_r 287 fM_r)] [(kM_r, .int)] t) (va_A [(oc7 oM iM_thrown rM_tape iM_taped iM_size iM_at iM_end iM_token iM_whole iM_nameSize iM_fault iM_place iM_trouble rM_letters iM_failed iM_hasCourt rM_r rM_fresh rM_told rM_read rM_st rM_undone rM_kept iM_undos iM_images rM_fresher iM_fresherSize iM_scale iM_night rM_heardRow rM_cutRow iM_breaths iM_cutMany iM_allBreaths rM_trial rM_words iM_fewestBreaths iM_orderMany iM_orderSum iM_leastOrder rM_often iM_setMany iM_someOf iM_allOf iM_allWeight iM_enoughWeight iM_worthSum iM_firstRest iM_leastDrawn), (arI rM_r kM_r 287 fM_r)] sz)) 0 0 (va_A [(oc7 oM iM_thrown rM_tape iM_taped iM_size iM_at iM_end iM_token iM_whole iM_nameSize iM_fault iM_place iM_trouble rM_letters iM_failed iM_hasCourt rM_r rM_fresh rM_told rM_read rM_st rM_undone rM_kept iM_undos iM_images rM_fresher iM_fresherSize iM_scale iM_night rM_heardRow rM_cutRow iM_breaths iM_cutMany iM_allBreaths rM_trial rM_words iM_fewestBreaths iM_orderMany iM_orderSum iM_leastOrder rM_often iM_setMany iM_someOf iM_allOf iM_allWeight iM_enoughWeight iM_worthSum iM_firstRest iM_leastDrawn), (arI rM_r kM_r 287 fM_r)] sz) := by
  refine Met.ofW (cc := cX7_weightsOf) (maxL := 4) (ret := (some .int)) (by decide) rfl ?_
  intro p e s m args below meth c s₁ B hml hv
  obtain ⟨rfl, hsz, hP, hK, hD0, hE⟩ := hv
  have hx := B.exec
  have hb := B.bytes
  have hr := B.returns
  have hts : ∀ w ∈ wG, w.before ([.ref oM, .int p0] : List Value).toArray s = true := fun w h => atoms_spec (ws := Cond.code yX7_weightsOf cX7_weightsOf 4 (some .int) :: wG) B.pre w (List.mem_cons_of_mem _ h)
  have hown : s.vm.findClass RX7 = some m.cls := findClass_of_methodNamed B.named
  have hlocks := B.notSynchronized
  subst hsz
  have hD := hD0.self (sz := s.heap.size)
  generalize hAe : va_A [(oc7 oM iM_thrown rM_tape iM_taped iM_size iM_at iM_end iM_token iM_whole iM_nameSize iM_fault iM_place iM_trouble rM_letters iM_failed iM_hasCourt rM_r rM_fresh rM_told rM_read rM_st rM_undone rM_kept iM_undos iM_images rM_fresher iM_fresherSize iM_scale iM_night rM_heardRow rM_cutRow iM_breaths iM_cutMany iM_allBreaths rM_trial rM_words iM_fewestBreaths iM_orderMany iM_orderSum iM_leastOrder rM_often iM_setMany iM_someOf iM_allOf iM_allWeight iM_enoughWeight iM_worthSum iM_firstRest iM_leastDrawn), (arI rM_r kM_r 287 fM_r)] s.heap.size = A at hD hE ⊢
  have hA : ∀ q : Nat, s.heap.size ≤ q → A q := fun q h => by rw [← hAe]; exact Or.inr h
  have hS : va_S A s.heap s.heap [] := va_S.rf
  have hl := lv_entry ([.ref oM, .int p0]) (n := 4) (Nat.le_of_ble_eq_true rfl)
  rw [lg_entry_eq]
  generalize (lg_sl ([.ref oM, .int p0]) ++ List.replicate (4 - (lg_sl ([.ref oM, .int p0])).length) Slot.unset).toArray = ls at hl ⊢
  have hl : lv_has ls 4 [(0, .ref oM), (1, .int p0)] := hl
  have s_slips := r_R.slips
  have s_nodes := r_R.nodes
  have s_uns := r_R.uns
  have q_p0 := ti_cl (x := p0) rfl (by omega)
  have mn_p0 := r_R.many (27 + p0.toNatClampNeg) (by omega) (by omega)
  have kn_p0 := r_R.kind (9 + p0.toNatClampNeg) (by omega) (by omega)
  have in_p0 := r_R.inner p0.toNatClampNeg (by omega)
  have ix_p0 : 1 ≤ (fM_r (27 + p0.toNatClampNeg)).toInt := in_p0 (by omega)
  refine lv_iconst (v := 0) hx hb dX7_weightsOf_0 (by decide) ?_
  refine lv_istore_n (lv' := [(2, .int 0), (0, .ref oM), (1, .int p0)]) hx hb dX7_weightsOf_1 rfl hl (by decide) rfl (fun ls hl => ?_)
  refine lv_iconst (v := 0) hx hb dX7_weightsOf_2 (by decide) ?_
  refine lv_istore_n (lv' := [(3, .int 0), (2, .int 0), (0, .ref oM), (1, .int p0)]) hx hb dX7_weightsOf_3 rfl hl (by decide) rfl (fun ls hl => ?_)
  have hl := lv_sub hl (l' := [(3, .int 0), (2, .int 0), (0, .ref oM), (1, .int p0)]) [0, 1, 2, 3] rfl
  have key_n_4558 : ∀ (n_4558 : Nat) (z_4556 : Int32) (z_4557 : Int32) (H : Heap) (locs : List Loc) (ls : Array Slot), (0 ≤ z_4556.toInt ∧ z_4556.toInt ≤ 4) → (z_4556.toInt ≤ z_4557.toInt ∧ z_4557.toInt ≤ 9 * z_4556.toInt) → (z_4556.toInt ≤ (fM_r (27 + p0.toNatClampNeg)).toInt) → (z_4557 = sum32 (fun i => fM_r (45 + 4 * p0.toNatClampNeg + i)) z_4556.toNatClampNeg) → (4 - z_4556.toInt).toNat < n_4558 → va_P (dC, dI) vwCl [(oc7 oM iM_thrown rM_tape iM_taped iM_size iM_at iM_end iM_token iM_whole iM_nameSize iM_fault iM_place iM_trouble rM_letters iM_failed iM_hasCourt rM_r rM_fresh rM_told rM_read rM_st rM_undone rM_kept iM_undos iM_images rM_fresher iM_fresherSize iM_scale iM_night rM_heardRow rM_cutRow iM_breaths iM_cutMany iM_allBreaths rM_trial rM_words iM_fewestBreaths iM_orderMany iM_orderSum iM_leastOrder rM_often iM_setMany iM_someOf iM_allOf iM_allWeight iM_enoughWeight iM_worthSum iM_firstRest iM_leastDrawn), (arI rM_r kM_r 287 fM_r)] H → va_D A [(oc7 oM iM_thrown rM_tape iM_taped iM_size iM_at iM_end iM_token iM_whole iM_nameSize iM_fault iM_place iM_trouble rM_letters iM_failed iM_hasCourt rM_r rM_fresh rM_told rM_read rM_st rM_undone rM_kept iM_undos iM_images rM_fresher iM_fresherSize iM_scale iM_night rM_heardRow rM_cutRow iM_breaths iM_cutMany iM_allBreaths rM_trial rM_words iM_fewestBreaths iM_orderMany iM_orderSum iM_leastOrder rM_often iM_setMany iM_someOf iM_allOf iM_allWeight iM_enoughWeight iM_worthSum iM_firstRest iM_leastDrawn), (arI rM_r kM_r 287 fM_r)] → va_S A s.heap H locs → lv_has ls 4 [(3, .int z_4556), (2, .int z_4557), (0, .ref oM), (1, .int p0)] → W p l e (headSpec (Cond.code yX7_weightsOf cX7_weightsOf 4 (some .int) :: wG) ({ frames := 0, cells := 0, slots := 0, locals := 0 })).room s m ([.ref oM, .int p0] : List Value).toArray below meth c H locs 0 0 (MQ below (va_Qi (fun (r : Int32) (_ : Nat) => True ∧ ((1 ≤ r.toInt ∧ r.toInt ≤ 36) ∧ r = sum32 (fun i => fM_r (45 + 4 * p0.toNatClampNeg + i)) (fM_r (27 + p0.toNatClampNeg)).toInt.toNat)) (fun (_ : Nat) (t : State) => Bw dC dI A [(oc7 oM iM_thrown rM_tape iM_taped iM_size iM_at iM_end iM_token iM_whole iM_nameSize iM_fault iM_place iM_trouble rM_letters iM_failed iM_hasCourt rM_r rM_fresh rM_told rM_read rM_st rM_undone rM_kept iM_undos iM_images rM_fresher iM_fresherSize iM_scale iM_night rM_heardRow rM_cutRow iM_breaths iM_cutMany iM_allBreaths rM_trial rM_words iM_fewestBreaths iM_orderMany iM_orderSum iM_leastOrder rM_often iM_setMany iM_someOf iM_allOf iM_allWeight iM_enoughWeight iM_worthSum iM_firstRest iM_leastDrawn), (arI rM_r kM_r 287 fM_r)] [(kM_r, .int)] t) A) ([.ref oM, .int p0] : List Value).toArray s 0 0 A) (F0 m 4 ls []) := by
    intro n_4558
    induction n_4558 with
    | zero => intro z_4556 z_4557 H locs ls hi0_n_4558 hi1_n_4558 hi2_n_4558 hi3_n_4558 hm; exact absurd hm (by omega)
    | succ n_4558 ih_n_4558 =>
      intro z_4556 z_4557 H locs ls hi0_n_4558 hi1_n_4558 hi2_n_4558 hi3_n_4558 hm hP hD hS hl
      refine lv_iload_n hx hb dX7_weightsOf_4 rfl (lv_at hl 0 rfl) ?_
      refine lv_aload_n hx hb dX7_weightsOf_5 rfl (lv_at hl 2 rfl) ?_
      refine va_get (D := (dC, dI)) (ci := 7) (v := .ref rM_r) (C := RX7) (T := TX7) (N := 48) hx hb hts inX7 hown hK hP 0 rfl rfl 15 (by decide) (hts _ wd_155) (fun _ h9 => h9) rfl dX7_weightsOf_6 ?_
      refine lv_bipush (v := 27) hx hb dX7_weightsOf_9 (by decide) ?_
      refine lv_iload_n hx hb dX7_weightsOf_11 rfl (lv_at hl 3 rfl) ?_
      refine lv_iadd hx hb dX7_weightsOf_12 ?_
      refine lv_topi (fun x_4559 ex_4559 => ?_)
      have vx_4559 : x_4559.toInt = p0.toInt + 27 := by have q := ti_add ex_4559 kc_27 rfl (by omega) (by omega); omega
      refine va_iald hx hb hK hP 1 0 rfl rfl (ti_in vx_4559 (by omega) (by omega)) dX7_weightsOf_13 ?_
      refine lv_topi (fun x_4560 ex_4560 => ?_)
      have kx_4560 : (fM_r x_4559.toNatClampNeg).toInt = x_4560.toInt := by rw [ex_4560]
      have cx_4560 : (fM_r (27 + p0.toNatClampNeg)).toInt = x_4560.toInt := by rw [show 27 + p0.toNatClampNeg = x_4559.toNatClampNeg from by have q9 := ti_cl (x := x_4559) vx_4559 (by omega); have q_p0 := ti_cl (x := p0) rfl (by omega); omega]; exact kx_4560
      have sx_4560 := r_R.many x_4559.toNatClampNeg (by have q9 := ti_cl (x := x_4559) vx_4559 (by omega); omega) (by have q9 := ti_cl (x := x_4559) vx_4559 (by omega); omega)
      refine lv_icmp_ge (tgt := 39) hx hb dX7_weightsOf_14 (by decide) (fun c_4561 => ?_) (fun c_4561 => ?_)
      · skip
        have gc_4561 := ti_le c_4561 rfl rfl
        refine lv_iload_n hx hb dX7_weightsOf_39 rfl (lv_at hl 1 rfl) ?_
        exact W.iret hx hb hr (fun t ht hW => ⟨⟨_, 0, rfl, ⟨trivial, ⟨by omega, by rw [show (fM_r (27 + p0.toNatClampNeg)).toInt.toNat = z_4556.toNatClampNeg from by have q1 := ti_cl (x := z_4556) rfl (by omega); omega]; exact hi3_n_4558⟩⟩, Bw.to (hP.sub [0, 1] rfl) (hD.sub [0, 1] (by decide) rfl) (hK.sub [0] rfl) ht hW⟩, hS.F ht⟩) hS.2.2 dX7_weightsOf_40
      · skip
        have gc_4561 := ti_nle c_4561 rfl rfl
        refine lv_iload_n hx hb dX7_weightsOf_17 rfl (lv_at hl 1 rfl) ?_
        refine lv_aload_n hx hb dX7_weightsOf_18 rfl (lv_at hl 2 rfl) ?_
        refine va_get (D := (dC, dI)) (ci := 7) (v := .ref rM_r) (C := RX7) (T := TX7) (N := 48) hx hb hts inX7 hown hK hP 0 rfl rfl 15 (by decide) (hts _ wd_155) (fun _ h9 => h9) rfl dX7_weightsOf_19 ?_
        refine lv_bipush (v := 45) hx hb dX7_weightsOf_22 (by decide) ?_
        refine lv_iconst (v := 4) hx hb dX7_weightsOf_24 (by decide) ?_
        refine lv_iload_n hx hb dX7_weightsOf_25 rfl (lv_at hl 3 rfl) ?_
        refine lv_imul hx hb dX7_weightsOf_26 ?_
        refine lv_topi (fun x_4562 ex_4562 => ?_)
        have vx_4562 : x_4562.toInt = 4 * p0.toInt := by have q := ti_mul ex_4562 kc_4 rfl (by omega) (by omega); omega
        refine lv_iadd hx hb dX7_weightsOf_27 ?_
        refine lv_topi (fun x_4563 ex_4563 => ?_)
        have vx_4563 : x_4563.toInt = 4 * p0.toInt + 45 := by have q := ti_add ex_4563 kc_45 vx_4562 (by omega) (by omega); omega
        refine lv_iload_n hx hb dX7_weightsOf_28 rfl (lv_at hl 0 rfl) ?_
        refine lv_iadd hx hb dX7_weightsOf_29 ?_
        refine lv_topi (fun x_4564 ex_4564 => ?_)
        have vx_4564 : x_4564.toInt = 4 * p0.toInt + z_4556.toInt + 45 := by have q := ti_add ex_4564 vx_4563 rfl (by omega) (by omega); omega
        refine va_iald hx hb hK hP 1 0 rfl rfl (ti_in vx_4564 (by omega) (by omega)) dX7_weightsOf_30 ?_
        refine lv_topi (fun x_4565 ex_4565 => ?_)
        have kx_4565 : (fM_r x_4564.toNatClampNeg).toInt = x_4565.toInt := by rw [ex_4565]
        have cx_4565 : (fM_r (45 + 4 * p0.toNatClampNeg + z_4556.toNatClampNeg)).toInt = x_4565.toInt := by rw [show 45 + 4 * p0.toNatClampNeg + z_4556.toNatClampNeg = x_4564.toNatClampNeg from by have q9 := ti_cl (x := x_4564) vx_4564 (by omega); have q_p0 := ti_cl (x := p0) rfl (by omega); have q_z_4556 := ti_cl (x := z_4556) rfl (by omega); omega]; exact kx_4565
        have sx_4565 := r_R.wts x_4564.toNatClampNeg (by have q9 := ti_cl (x := x_4564) vx_4564 (by omega); omega) (by have q9 := ti_cl (x := x_4564) vx_4564 (by omega); omega)
        have xx_4565 := r_R.chance p0.toNatClampNeg z_4556.toNatClampNeg (by have q_1 := ti_cl (x := p0) rfl (by omega); have q_2 := ti_cl (x := z_4556) rfl (by omega); omega) (by omega) (by have q_1 := ti_cl (x := p0) rfl (by omega); have q_2 := ti_cl (x := z_4556) rfl (by omega); omega)
        have xx_4565 : 1 ≤ x_4565.toInt := by have q_3 := cx_4565; rw [show 45 + 4 * p0.toNatClampNeg + z_4556.toNatClampNeg = 45 + 4 * p0.toNatClampNeg + z_4556.toNatClampNeg from by omega] at xx_4565; omega
        refine lv_iadd hx hb dX7_weightsOf_31 ?_
        refine lv_topi (fun x_4566 ex_4566 => ?_)
        have vx_4566 : x_4566.toInt = x_4565.toInt + z_4557.toInt := by have q := ti_add ex_4566 rfl rfl (by omega) (by omega); omega
        refine lv_istore_n (lv' := [(2, .int x_4566), (3, .int z_4556), (0, .ref oM), (1, .int p0)]) hx hb dX7_weightsOf_32 rfl hl (by decide) rfl (fun ls hl => ?_)
        obtain ⟨x_4567, ex_4567⟩ : ∃ z : Int32, z = z_4556 + Int32.ofInt 1 := ⟨_, rfl⟩
        have vx_4567 : x_4567.toInt = z_4556.toInt + 1 := by have q := ti_add (y := 1) ex_4567 rfl kc_1 (by omega) (by omega); omega
        refine lv_iinc (v := x_4567) (lv' := [(3, .int x_4567), (2, .int x_4566), (0, .ref oM), (1, .int p0)]) hx hb dX7_weightsOf_33 hl (k := 1) rfl ex_4567.symm (by decide) rfl (fun ls hl => ?_)
        refine lv_goto (tgt := 4) hx hb dX7_weightsOf_36 (by decide) ?_
        exact ih_n_4558 x_4567 x_4566 _ _ _  (by first | omega | decide | assumption) (by first | omega | decide | assumption) (by first | omega | decide | assumption) (sum_step (z := x_4565) hi3_n_4558 ex_4566 (by have q := cx_4565; rw [show 45 + 4 * p0.toNatClampNeg + z_4556.toNatClampNeg = 45 + 4 * p0.toNatClampNeg + z_4556.toNatClampNeg from by omega]; exact q) (by have q1 := ti_cl (x := x_4567) vx_4567 (by omega); have q2 := ti_cl (x := z_4556) rfl (by omega); omega)) (by omega) (hP.sub [0, 1] rfl) (hD.sub [0, 1] (by decide) rfl) hS (lv_sub hl [0, 1, 2, 3] rfl)
  exact key_n_4558 (((4 - (0 : Int32).toInt).toNat) + 1) 0 0 _ _ _  (by first | omega | decide | assumption | (have q0 := kc_0; have q1 := kc_1; omega) | exact rfl) (by first | omega | decide | assumption | (have q0 := kc_0; have q1 := kc_1; omega) | exact rfl) (by first | omega | decide | assumption | (have q0 := kc_0; have q1 := kc_1; omega) | exact rfl) (by first | omega | decide | assumption | (have q0 := kc_0; have q1 := kc_1; omega) | exact rfl) (by omega) hP hD hS hl
set_option maxHeartbeats 4000000 in
set_option maxRecDepth 100000 in
theorem tX7_weightOf_x (l : Launch) (dC : Nat → ClassId) (dI : Nat → Nat → Nat) (sz : Nat) (oM : Nat) (iM_thrown : Int32) (rM_tape : Nat) (iM_taped : Int32) (iM_size : Int32) (iM_at : Int32) (iM_end : Int32) (iM_token : Int32) (iM_whole : Int32) (iM_nameSize : Int32) (iM_fault : Int32) (iM_place : Int32) (iM_trouble : Int32) (rM_letters : Nat) (iM_failed : Int32) (iM_hasCourt : Int32) (rM_r : Nat) (fM_r : Nat → Int32) (kM_r : ClassId) (rM_fresh : Nat) (rM_told : Nat) (fM_told : Nat → Int32) (kM_told : ClassId) (rM_read : Nat) (rM_st : Nat) (rM_undone : Nat) (rM_kept : Nat) (iM_undos : Int32) (iM_images : Int32) (rM_fresher : Nat) (iM_fresherSize : Int32) (iM_scale : Int32) (iM_night : Int32) (rM_heardRow : Nat) (rM_cutRow : Nat) (iM_breaths : Int32) (iM_cutMany : Int32) (iM_allBreaths : Int32) (rM_trial : Nat) (rM_words : Nat) (iM_fewestBreaths : Int32) (iM_orderMany : Int32) (iM_orderSum : Int32) (iM_leastOrder : Int32) (rM_often : Nat) (iM_setMany : Int32) (iM_someOf : Int32) (iM_allOf : Int32) (iM_allWeight : Int64) (iM_enoughWeight : Int64) (iM_worthSum : Int64) (iM_firstRest : Int32) (iM_leastDrawn : Int32) (p0 : Int32) (p1 : Int32) (b_iM_taped : 0 ≤ iM_taped.toInt ∧ iM_taped.toInt ≤ 900) (b_iM_size : 0 ≤ iM_size.toInt ∧ iM_size.toInt ≤ 900) (b_iM_end : 0 ≤ iM_end.toInt ∧ iM_end.toInt ≤ 900) (b_iM_failed : 0 ≤ iM_failed.toInt ∧ iM_failed.toInt ≤ 1) (b_iM_hasCourt : 0 ≤ iM_hasCourt.toInt ∧ iM_hasCourt.toInt ≤ 1) (b_iM_undos : 0 ≤ iM_undos.toInt ∧ iM_undos.toInt ≤ 16) (b_iM_images : 0 ≤ iM_images.toInt ∧ iM_images.toInt ≤ 3) (b_iM_scale : 1 ≤ iM_scale.toInt ∧ iM_scale.toInt ≤ 1296) (b_iM_breaths : 0 ≤ iM_breaths.toInt ∧ iM_breaths.toInt ≤ 399) (b_iM_cutMany : 0 ≤ iM_cutMany.toInt ∧ iM_cutMany.toInt ≤ 399) (r_R : ROk fM_r) (r_C : iM_hasCourt.toInt ≤ 0 ∨ (1 ≤ (fM_r 1).toInt ∧ 0 ≤ (fM_r 6).toInt ∧ (fM_r 6).toInt < (fM_r 1).toInt)) (r_told : RowOk fM_r fM_told) (hk0 : 0 ≤ p0.toInt ∧ p0.toInt < (fM_r 1).toInt) : Met l yX7_weightOf (Cond.code yX7_weightOf cX7_weightOf 4 (some .int) :: wG) ({ frames := 0, cells := 0, slots := 0, locals := 0 }) (va_Pc [.ref oM, .int p0, .int p1] (Pw dC dI sz [(oc7 oM iM_thrown rM_tape iM_taped iM_size iM_at iM_end iM_token iM_whole iM_nameSize iM_fault iM_place iM_trouble rM_letters iM_failed iM_hasCourt rM_r rM_fresh rM_told rM_read rM_st rM_undone rM_kept iM_undos iM_images rM_fresher iM_fresherSize iM_scale iM_night rM_heardRow rM_cutRow iM_breaths iM_cutMany iM_allBreaths rM_trial rM_words iM_fewestBreaths iM_orderMany iM_orderSum iM_leastOrder rM_often iM_setMany iM_someOf iM_allOf iM_allWeight iM_enoughWeight iM_worthSum iM_firstRest iM_leastDrawn), (arI rM_r kM_r 287 fM_r), (arI rM_told kM_told 90 fM_told)] [(kM_r, .int), (kM_told, .int)])) (va_Qi (fun (r : Int32) (_ : Nat) => True ∧ ((0 ≤ r.toInt ∧ r.toInt ≤ 9) ∧ r = wOf fM_r fM_told p0.toNatClampNeg p1 (fM_r (27 + p0.toNatClampNeg)).toInt.toNat 0)) (fun (_ : Nat) (t : State) => Bw dC dI (va_A [(oc7 oM iM_thrown rM_tape iM_taped iM_size iM_at iM_end iM_token iM_whole iM_nameSize iM_fault iM_place iM_trouble rM_letters iM_failed iM_hasCourt rM_r rM_fresh rM_told rM_read rM_st rM_undone rM_kept iM_undos iM_images rM_fresher iM_fresherSize iM_scale iM_night rM_heardRow rM_cutRow iM_breaths iM_cutMany iM_allBreaths rM_trial rM_words iM_fewestBreaths iM_orderMany iM_orderSum iM_leastOrder rM_often iM_setMany iM_someOf iM_allOf iM_allWeight iM_enoughWeight iM_worthSum iM_firstRest iM_leastDrawn), (arI rM_r kM_r 287 fM_r), (arI rM_told kM_told 90 fM_told)] sz) [(oc7 oM iM_thrown rM_tape iM_taped iM_size iM_at iM_end iM_token iM_whole iM_nameSize iM_fault iM_place iM_trouble rM_letters iM_failed iM_hasCourt rM_r rM_fresh rM_told rM_read rM_st rM_undone rM_kept iM_undos iM_images rM_fresher iM_fresherSize iM_scale iM_night rM_heardRow rM_cutRow iM_breaths iM_cutMany iM_allBreaths rM_trial rM_words iM_fewestBreaths iM_orderMany iM_orderSum iM_leastOrder rM_often iM_setMany iM_someOf iM_allOf iM_allWeight iM_enoughWeight iM_worthSum iM_firstRest iM_leastDrawn), (arI rM_r kM_r 287 fM_r), (arI rM_told kM_told 90 fM_told)] [(kM_r, .int), (kM_told, .int)] t) (va_A [(oc7 oM iM_thrown rM_tape iM_taped iM_size iM_at iM_end iM_token iM_whole iM_nameSize iM_fault iM_place iM_trouble rM_letters iM_failed iM_hasCourt rM_r rM_fresh rM_told rM_read rM_st rM_undone rM_kept iM_undos iM_images rM_fresher iM_fresherSize iM_scale iM_night rM_heardRow rM_cutRow iM_breaths iM_cutMany iM_allBreaths rM_trial rM_words iM_fewestBreaths iM_orderMany iM_orderSum iM_leastOrder rM_often iM_setMany iM_someOf iM_allOf iM_allWeight iM_enoughWeight iM_worthSum iM_firstRest iM_leastDrawn), (arI rM_r kM_r 287 fM_r), (arI rM_told kM_told 90 fM_told)] sz)) 0 0 (va_A [(oc7 oM iM_thrown rM_tape iM_taped iM_size iM_at iM_end iM_token iM_whole iM_nameSize iM_fault iM_place iM_trouble rM_letters iM_failed iM_hasCourt rM_r rM_fresh rM_told rM_read rM_st rM_undone rM_kept iM_undos iM_images rM_fresher iM_fresherSize iM_scale iM_night rM_heardRow rM_cutRow iM_breaths iM_cutMany iM_allBreaths rM_trial rM_words iM_fewestBreaths iM_orderMany iM_orderSum iM_leastOrder rM_often iM_setMany iM_someOf iM_allOf iM_allWeight iM_enoughWeight iM_worthSum iM_firstRest iM_leastDrawn), (arI rM_r kM_r 287 fM_r), (arI rM_told kM_told 90 fM_told)] sz) := by
  refine Met.ofW (cc := cX7_weightOf) (maxL := 4) (ret := (some .int)) (by decide) rfl ?_
  intro p e s m args below meth c s₁ B hml hv
  obtain ⟨rfl, hsz, hP, hK, hD0, hE⟩ := hv
  have hx := B.exec
  have hb := B.bytes
  have hr := B.returns
  have hts : ∀ w ∈ wG, w.before ([.ref oM, .int p0, .int p1] : List Value).toArray s = true := fun w h => atoms_spec (ws := Cond.code yX7_weightOf cX7_weightOf 4 (some .int) :: wG) B.pre w (List.mem_cons_of_mem _ h)
  have hown : s.vm.findClass RX7 = some m.cls := findClass_of_methodNamed B.named
  have hlocks := B.notSynchronized
  subst hsz
  have hD := hD0.self (sz := s.heap.size)
  generalize hAe : va_A [(oc7 oM iM_thrown rM_tape iM_taped iM_size iM_at iM_end iM_token iM_whole iM_nameSize iM_fault iM_place iM_trouble rM_letters iM_failed iM_hasCourt rM_r rM_fresh rM_told rM_read rM_st rM_undone rM_kept iM_undos iM_images rM_fresher iM_fresherSize iM_scale iM_night rM_heardRow rM_cutRow iM_breaths iM_cutMany iM_allBreaths rM_trial rM_words iM_fewestBreaths iM_orderMany iM_orderSum iM_leastOrder rM_often iM_setMany iM_someOf iM_allOf iM_allWeight iM_enoughWeight iM_worthSum iM_firstRest iM_leastDrawn), (arI rM_r kM_r 287 fM_r), (arI rM_told kM_told 90 fM_told)] s.heap.size = A at hD hE ⊢
  have hA : ∀ q : Nat, s.heap.size ≤ q → A q := fun q h => by rw [← hAe]; exact Or.inr h
  have hS : va_S A s.heap s.heap [] := va_S.rf
  have hl := lv_entry ([.ref oM, .int p0, .int p1]) (n := 4) (Nat.le_of_ble_eq_true rfl)
  rw [lg_entry_eq]
  generalize (lg_sl ([.ref oM, .int p0, .int p1]) ++ List.replicate (4 - (lg_sl ([.ref oM, .int p0, .int p1])).length) Slot.unset).toArray = ls at hl ⊢
  have hl : lv_has ls 4 [(0, .ref oM), (1, .int p0), (2, .int p1)] := hl
  have rg_p0 := fb_rng p0
  have rg_p1 := fb_rng p1
  have s_slips := r_R.slips
  have s_nodes := r_R.nodes
  have s_uns := r_R.uns
  have q_p0 := ti_cl (x := p0) rfl (by omega)
  have mn_p0 := r_R.many (27 + p0.toNatClampNeg) (by omega) (by omega)
  have kn_p0 := r_R.kind (9 + p0.toNatClampNeg) (by omega) (by omega)
  have in_p0 := r_R.inner p0.toNatClampNeg (by omega)
  refine lv_iconst (v := 0) hx hb dX7_weightOf_0 (by decide) ?_
  refine lv_istore_n (lv' := [(3, .int 0), (0, .ref oM), (1, .int p0), (2, .int p1)]) hx hb dX7_weightOf_1 rfl hl (by decide) rfl (fun ls hl => ?_)
  have hl := lv_sub hl (l' := [(3, .int 0), (0, .ref oM), (1, .int p0), (2, .int p1)]) [0, 1, 2, 3] rfl
  have key_n_4583 : ∀ (n_4583 : Nat) (z_4582 : Int32) (H : Heap) (locs : List Loc) (ls : Array Slot), (0 ≤ z_4582.toInt ∧ z_4582.toInt ≤ 4) → (wOf fM_r fM_told p0.toNatClampNeg p1 (fM_r (27 + p0.toNatClampNeg)).toInt.toNat 0 = wOf fM_r fM_told p0.toNatClampNeg p1 ((fM_r (27 + p0.toNatClampNeg)).toInt.toNat - z_4582.toNatClampNeg) z_4582.toNatClampNeg) → (2147483647 - z_4582.toInt).toNat < n_4583 → va_P (dC, dI) vwCl [(oc7 oM iM_thrown rM_tape iM_taped iM_size iM_at iM_end iM_token iM_whole iM_nameSize iM_fault iM_place iM_trouble rM_letters iM_failed iM_hasCourt rM_r rM_fresh rM_told rM_read rM_st rM_undone rM_kept iM_undos iM_images rM_fresher iM_fresherSize iM_scale iM_night rM_heardRow rM_cutRow iM_breaths iM_cutMany iM_allBreaths rM_trial rM_words iM_fewestBreaths iM_orderMany iM_orderSum iM_leastOrder rM_often iM_setMany iM_someOf iM_allOf iM_allWeight iM_enoughWeight iM_worthSum iM_firstRest iM_leastDrawn), (arI rM_r kM_r 287 fM_r), (arI rM_told kM_told 90 fM_told)] H → va_D A [(oc7 oM iM_thrown rM_tape iM_taped iM_size iM_at iM_end iM_token iM_whole iM_nameSize iM_fault iM_place iM_trouble rM_letters iM_failed iM_hasCourt rM_r rM_fresh rM_told rM_read rM_st rM_undone rM_kept iM_undos iM_images rM_fresher iM_fresherSize iM_scale iM_night rM_heardRow rM_cutRow iM_breaths iM_cutMany iM_allBreaths rM_trial rM_words iM_fewestBreaths iM_orderMany iM_orderSum iM_leastOrder rM_often iM_setMany iM_someOf iM_allOf iM_allWeight iM_enoughWeight iM_worthSum iM_firstRest iM_leastDrawn), (arI rM_r kM_r 287 fM_r), (arI rM_told kM_told 90 fM_told)] → va_S A s.heap H locs → lv_has ls 4 [(3, .int z_4582), (0, .ref oM), (1, .int p0), (2, .int p1)] → W p l e (headSpec (Cond.code yX7_weightOf cX7_weightOf 4 (some .int) :: wG) ({ frames := 0, cells := 0, slots := 0, locals := 0 })).room s m ([.ref oM, .int p0, .int p1] : List Value).toArray below meth c H locs 0 0 (MQ below (va_Qi (fun (r : Int32) (_ : Nat) => True ∧ ((0 ≤ r.toInt ∧ r.toInt ≤ 9) ∧ r = wOf fM_r fM_told p0.toNatClampNeg p1 (fM_r (27 + p0.toNatClampNeg)).toInt.toNat 0)) (fun (_ : Nat) (t : State) => Bw dC dI A [(oc7 oM iM_thrown rM_tape iM_taped iM_size iM_at iM_end iM_token iM_whole iM_nameSize iM_fault iM_place iM_trouble rM_letters iM_failed iM_hasCourt rM_r rM_fresh rM_told rM_read rM_st rM_undone rM_kept iM_undos iM_images rM_fresher iM_fresherSize iM_scale iM_night rM_heardRow rM_cutRow iM_breaths iM_cutMany iM_allBreaths rM_trial rM_words iM_fewestBreaths iM_orderMany iM_orderSum iM_leastOrder rM_often iM_setMany iM_someOf iM_allOf iM_allWeight iM_enoughWeight iM_worthSum iM_firstRest iM_leastDrawn), (arI rM_r kM_r 287 fM_r), (arI rM_told kM_told 90 fM_told)] [(kM_r, .int), (kM_told, .int)] t) A) ([.ref oM, .int p0, .int p1] : List Value).toArray s 0 0 A) (F0 m 2 ls []) := by
    intro n_4583
    induction n_4583 with
    | zero => intro z_4582 H locs ls hi0_n_4583 hi1_n_4583 hm; exact absurd hm (by omega)
    | succ n_4583 ih_n_4583 =>
      intro z_4582 H locs ls hi0_n_4583 hi1_n_4583 hm hP hD hS hl
      have rg_z_4582 := fb_rng z_4582
      refine lv_iload_n hx hb dX7_weightOf_2 rfl (lv_at hl 0 rfl) ?_
      refine lv_aload_n hx hb dX7_weightOf_3 rfl (lv_at hl 1 rfl) ?_
      refine va_get (D := (dC, dI)) (ci := 7) (v := .ref rM_r) (C := RX7) (T := TX7) (N := 48) hx hb hts inX7 hown hK hP 0 rfl rfl 15 (by decide) (hts _ wd_155) (fun _ h9 => h9) rfl dX7_weightOf_4 ?_
      refine lv_bipush (v := 27) hx hb dX7_weightOf_7 (by decide) ?_
      refine lv_iload_n hx hb dX7_weightOf_9 rfl (lv_at hl 2 rfl) ?_
      refine lv_iadd hx hb dX7_weightOf_10 ?_
      refine lv_topi (fun x_4584 ex_4584 => ?_)
      have vx_4584 : x_4584.toInt = p0.toInt + 27 := by have q := ti_add ex_4584 kc_27 rfl (by omega) (by omega); omega
      refine va_iald hx hb hK hP 1 0 rfl rfl (ti_in vx_4584 (by omega) (by omega)) dX7_weightOf_11 ?_
      refine lv_topi (fun x_4585 ex_4585 => ?_)
      have rg_x_4585 := fb_rng x_4585
      have kx_4585 : (fM_r x_4584.toNatClampNeg).toInt = x_4585.toInt := by rw [ex_4585]
      have cx_4585 : (fM_r (27 + p0.toNatClampNeg)).toInt = x_4585.toInt := by rw [show 27 + p0.toNatClampNeg = x_4584.toNatClampNeg from by have q9 := ti_cl (x := x_4584) vx_4584 (by omega); have q_p0 := ti_cl (x := p0) rfl (by omega); omega]; exact kx_4585
      have sx_4585 := r_R.many x_4584.toNatClampNeg (by have q9 := ti_cl (x := x_4584) vx_4584 (by omega); omega) (by have q9 := ti_cl (x := x_4584) vx_4584 (by omega); omega)
      refine lv_icmp_ge (tgt := 49) hx hb dX7_weightOf_12 (by decide) (fun c_4586 => ?_) (fun c_4586 => ?_)
      · skip
        have gc_4586 := ti_le c_4586 rfl rfl
        refine lv_iconst (v := 0) hx hb dX7_weightOf_49 (by decide) ?_
        exact W.iret hx hb hr (fun t ht hW => ⟨⟨_, 0, rfl, ⟨trivial, ⟨by decide, wOf_out hi1_n_4583 (by have q2 := ti_cl (x := z_4582) rfl (by omega); omega)⟩⟩, Bw.to (hP.sub [0, 1, 2] rfl) (hD.sub [0, 1, 2] (by decide) rfl) (hK.sub [0, 1] rfl) ht hW⟩, hS.F ht⟩) hS.2.2 dX7_weightOf_50
      · skip
        have gc_4586 := ti_nle c_4586 rfl rfl
        refine lv_aload_n hx hb dX7_weightOf_15 rfl (lv_at hl 1 rfl) ?_
        refine va_get (D := (dC, dI)) (ci := 7) (v := .ref rM_told) (C := RX7) (T := TX7) (N := 48) hx hb hts inX7 hown hK hP 0 rfl rfl 17 (by decide) (hts _ wd_157) (fun _ h9 => h9) rfl dX7_weightOf_16 ?_
        refine lv_iconst (v := 4) hx hb dX7_weightOf_19 (by decide) ?_
        refine lv_iload_n hx hb dX7_weightOf_20 rfl (lv_at hl 2 rfl) ?_
        refine lv_imul hx hb dX7_weightOf_21 ?_
        refine lv_topi (fun x_4587 ex_4587 => ?_)
        have vx_4587 : x_4587.toInt = 4 * p0.toInt := by have q := ti_mul ex_4587 kc_4 rfl (by omega) (by omega); omega
        refine lv_iload_n hx hb dX7_weightOf_22 rfl (lv_at hl 0 rfl) ?_
        refine lv_iadd hx hb dX7_weightOf_23 ?_
        refine lv_topi (fun x_4588 ex_4588 => ?_)
        have vx_4588 : x_4588.toInt = 4 * p0.toInt + z_4582.toInt := by have q := ti_add ex_4588 vx_4587 rfl (by omega) (by omega); omega
        refine va_iald hx hb hK hP 2 1 rfl rfl (ti_in vx_4588 (by omega) (by omega)) dX7_weightOf_24 ?_
        refine lv_topi (fun x_4589 ex_4589 => ?_)
        have rg_x_4589 := fb_rng x_4589
        have kx_4589 : (fM_told x_4588.toNatClampNeg).toInt = x_4589.toInt := by rw [ex_4589]
        have cx_4589 : (fM_told (4 * p0.toNatClampNeg + z_4582.toNatClampNeg)).toInt = x_4589.toInt := by rw [show 4 * p0.toNatClampNeg + z_4582.toNatClampNeg = x_4588.toNatClampNeg from by have q9 := ti_cl (x := x_4588) vx_4588 (by omega); have q_p0 := ti_cl (x := p0) rfl (by omega); have q_z_4582 := ti_cl (x := z_4582) rfl (by omega); omega]; exact kx_4589
        have wx_4589 := r_told.lt p0.toNatClampNeg (z_4582.toNatClampNeg) (by have q_1 := ti_cl (x := p0) rfl (by omega); have q_2 := ti_cl (x := z_4582) rfl (by omega); omega) (by have q_1 := ti_cl (x := p0) rfl (by omega); have q_2 := ti_cl (x := z_4582) rfl (by omega); omega)
        have wx_4589 : 0 ≤ x_4589.toInt ∧ x_4589.toInt < p0.toInt := by have q_1 := ti_cl (x := p0) rfl (by omega); have q_2 := ti_cl (x := z_4582) rfl (by omega); have q_3 := cx_4589; rw [show 4 * p0.toNatClampNeg + (z_4582.toNatClampNeg) = 4 * p0.toNatClampNeg + z_4582.toNatClampNeg from by omega] at wx_4589; omega
        refine lv_iload_n hx hb dX7_weightOf_25 rfl (lv_at hl 3 rfl) ?_
        refine lv_icmp_ne (tgt := 43) hx hb dX7_weightOf_26 (by decide) (fun c_4590 => ?_) (fun c_4590 => ?_)
        · skip
          have gc_4590 := ti_ne c_4590 rfl rfl
          obtain ⟨x_4591, ex_4591⟩ : ∃ z : Int32, z = z_4582 + Int32.ofInt 1 := ⟨_, rfl⟩
          have vx_4591 : x_4591.toInt = z_4582.toInt + 1 := by have q := ti_add (y := 1) ex_4591 rfl kc_1 (by omega) (by omega); omega
          refine lv_iinc (v := x_4591) (lv' := [(3, .int x_4591), (0, .ref oM), (1, .int p0), (2, .int p1)]) hx hb dX7_weightOf_43 hl (k := 0) rfl ex_4591.symm (by decide) rfl (fun ls hl => ?_)
          refine lv_goto (tgt := 2) hx hb dX7_weightOf_46 (by decide) ?_
          exact ih_n_4583 x_4591 _ _ _  (by first | omega | decide | assumption) (wOf_next (z := x_4589) hi1_n_4583 (by have q := cx_4589; rw [show 4 * p0.toNatClampNeg + z_4582.toNatClampNeg = 4 * p0.toNatClampNeg + z_4582.toNatClampNeg from by omega]; exact q) (by omega) (by have q2 := ti_cl (x := z_4582) rfl (by omega); omega) (by have q1 := ti_cl (x := x_4591) vx_4591 (by omega); have q2 := ti_cl (x := z_4582) rfl (by omega); omega)) (by omega) (hP.sub [0, 1, 2] rfl) (hD.sub [0, 1, 2] (by decide) rfl) hS (lv_sub hl [0, 1, 2, 3] rfl)
        · skip
          have gc_4590 := ti_eq c_4590 rfl rfl
          refine lv_aload_n hx hb dX7_weightOf_29 rfl (lv_at hl 1 rfl) ?_
          refine va_get (D := (dC, dI)) (ci := 7) (v := .ref rM_r) (C := RX7) (T := TX7) (N := 48) hx hb hts inX7 hown hK hP 0 rfl rfl 15 (by decide) (hts _ wd_155) (fun _ h9 => h9) rfl dX7_weightOf_30 ?_
          refine lv_bipush (v := 45) hx hb dX7_weightOf_33 (by decide) ?_
          refine lv_iconst (v := 4) hx hb dX7_weightOf_35 (by decide) ?_
          refine lv_iload_n hx hb dX7_weightOf_36 rfl (lv_at hl 2 rfl) ?_
          refine lv_imul hx hb dX7_weightOf_37 ?_
          refine lv_topi (fun x_4592 ex_4592 => ?_)
          have vx_4592 : x_4592.toInt = 4 * p0.toInt := by have q := ti_mul ex_4592 kc_4 rfl (by omega) (by omega); omega
          refine lv_iadd hx hb dX7_weightOf_38 ?_
          refine lv_topi (fun x_4593 ex_4593 => ?_)
          have vx_4593 : x_4593.toInt = 4 * p0.toInt + 45 := by have q := ti_add ex_4593 kc_45 vx_4592 (by omega) (by omega); omega
          refine lv_iload_n hx hb dX7_weightOf_39 rfl (lv_at hl 0 rfl) ?_
          refine lv_iadd hx hb dX7_weightOf_40 ?_
          refine lv_topi (fun x_4594 ex_4594 => ?_)
          have vx_4594 : x_4594.toInt = 4 * p0.toInt + z_4582.toInt + 45 := by have q := ti_add ex_4594 vx_4593 rfl (by omega) (by omega); omega
          refine va_iald hx hb hK hP 1 0 rfl rfl (ti_in vx_4594 (by omega) (by omega)) dX7_weightOf_41 ?_
          refine lv_topi (fun x_4595 ex_4595 => ?_)
          have rg_x_4595 := fb_rng x_4595
          have kx_4595 : (fM_r x_4594.toNatClampNeg).toInt = x_4595.toInt := by rw [ex_4595]
          have cx_4595 : (fM_r (45 + 4 * p0.toNatClampNeg + z_4582.toNatClampNeg)).toInt = x_4595.toInt := by rw [show 45 + 4 * p0.toNatClampNeg + z_4582.toNatClampNeg = x_4594.toNatClampNeg from by have q9 := ti_cl (x := x_4594) vx_4594 (by omega); have q_p0 := ti_cl (x := p0) rfl (by omega); have q_z_4582 := ti_cl (x := z_4582) rfl (by omega); omega]; exact kx_4595
          have sx_4595 := r_R.wts x_4594.toNatClampNeg (by have q9 := ti_cl (x := x_4594) vx_4594 (by omega); omega) (by have q9 := ti_cl (x := x_4594) vx_4594 (by omega); omega)
          exact W.iret hx hb hr (fun t ht hW => ⟨⟨_, 0, rfl, ⟨trivial, ⟨by omega, wOf_hit (z := x_4589) hi1_n_4583 (by have q := cx_4589; rw [show 4 * p0.toNatClampNeg + z_4582.toNatClampNeg = 4 * p0.toNatClampNeg + z_4582.toNatClampNeg from by omega]; exact q) (by omega) (by have q2 := ti_cl (x := z_4582) rfl (by omega); omega) (by have q := cx_4595; rw [show 45 + 4 * p0.toNatClampNeg + z_4582.toNatClampNeg = 45 + 4 * p0.toNatClampNeg + z_4582.toNatClampNeg from by omega]; exact q)⟩⟩, Bw.to (hP.sub [0, 1, 2] rfl) (hD.sub [0, 1, 2] (by decide) rfl) (hK.sub [0, 1] rfl) ht hW⟩, hS.F ht⟩) hS.2.2 dX7_weightOf_42
  exact key_n_4583 (((2147483647 - (0 : Int32).toInt).toNat) + 1) 0 _ _ _  (by first | omega | decide | assumption | (have q0 := kc_0; have q1 := kc_1; omega) | exact rfl) (by first | omega | decide | assumption | (have q0 := kc_0; have q1 := kc_1; omega) | exact rfl) (by omega) hP hD hS hl
set_option maxHeartbeats 4000000 in
set_option maxRecDepth 100000 in
theorem tX7_worthAt_x_n (l : Launch) (dC : Nat → ClassId) (dI : Nat → Nat → Nat) : ∀ (n9 : Nat) (sz : Nat) (oM : Nat) (iM_thrown : Int32) (rM_tape : Nat) (iM_taped : Int32) (iM_size : Int32) (iM_at : Int32) (iM_end : Int32) (iM_token : Int32) (iM_whole : Int32) (iM_nameSize : Int32) (iM_fault : Int32) (iM_place : Int32) (iM_trouble : Int32) (rM_letters : Nat) (iM_failed : Int32) (iM_hasCourt : Int32) (rM_r : Nat) (fM_r : Nat → Int32) (kM_r : ClassId) (rM_fresh : Nat) (rM_told : Nat) (fM_told : Nat → Int32) (kM_told : ClassId) (rM_read : Nat) (rM_st : Nat) (rM_undone : Nat) (rM_kept : Nat) (iM_undos : Int32) (iM_images : Int32) (rM_fresher : Nat) (iM_fresherSize : Int32) (iM_scale : Int32) (iM_night : Int32) (rM_heardRow : Nat) (rM_cutRow : Nat) (iM_breaths : Int32) (iM_cutMany : Int32) (iM_allBreaths : Int32) (rM_trial : Nat) (rM_words : Nat) (iM_fewestBreaths : Int32) (iM_orderMany : Int32) (iM_orderSum : Int32) (iM_leastOrder : Int32) (rM_often : Nat) (iM_setMany : Int32) (iM_someOf : Int32) (iM_allOf : Int32) (iM_allWeight : Int64) (iM_enoughWeight : Int64) (iM_worthSum : Int64) (iM_firstRest : Int32) (iM_leastDrawn : Int32) (rQ : Nat) (fQ : Nat → Int32) (kQ : ClassId) (p0 : Int32) (p1 : Int32) (b_iM_taped : 0 ≤ iM_taped.toInt ∧ iM_taped.toInt ≤ 900) (b_iM_size : 0 ≤ iM_size.toInt ∧ iM_size.toInt ≤ 900) (b_iM_end : 0 ≤ iM_end.toInt ∧ iM_end.toInt ≤ 900) (b_iM_failed : 0 ≤ iM_failed.toInt ∧ iM_failed.toInt ≤ 1) (b_iM_hasCourt : 0 ≤ iM_hasCourt.toInt ∧ iM_hasCourt.toInt ≤ 1) (b_iM_undos : 0 ≤ iM_undos.toInt ∧ iM_undos.toInt ≤ 16) (b_iM_images : 0 ≤ iM_images.toInt ∧ iM_images.toInt ≤ 3) (b_iM_scale : 1 ≤ iM_scale.toInt ∧ iM_scale.toInt ≤ 1296) (b_iM_breaths : 0 ≤ iM_breaths.toInt ∧ iM_breaths.toInt ≤ 399) (b_iM_cutMany : 0 ≤ iM_cutMany.toInt ∧ iM_cutMany.toInt ≤ 399) (r_R : ROk fM_r) (r_C : iM_hasCourt.toInt ≤ 0 ∨ (1 ≤ (fM_r 1).toInt ∧ 0 ≤ (fM_r 6).toInt ∧ (fM_r 6).toInt < (fM_r 1).toInt)) (r_told : RowOk fM_r fM_told) (r_Q : RowOk fM_r fQ) (hk0 : 0 ≤ p0.toInt ∧ p0.toInt < (fM_r 1).toInt) (hnt : iM_night.toInt = -1) (hdp : 0 ≤ p1.toInt ∧ p1.toInt + p0.toInt ≤ 100) (hn9 : p0.toInt < (n9 : Int)), Met l yX7_worthAt (Cond.code yX7_worthAt cX7_worthAt 9 (some .int) :: wG) ({ frames := 1 + n9, cells := 0, slots := 0, locals := 10 + 28 * n9 }) (va_Pc [.ref oM, .ref rQ, .int p0, .int p1] (Pw dC dI sz [(oc7 oM iM_thrown rM_tape iM_taped iM_size iM_at iM_end iM_token iM_whole iM_nameSize iM_fault iM_place iM_trouble rM_letters iM_failed iM_hasCourt rM_r rM_fresh rM_told rM_read rM_st rM_undone rM_kept iM_undos iM_images rM_fresher iM_fresherSize iM_scale iM_night rM_heardRow rM_cutRow iM_breaths iM_cutMany iM_allBreaths rM_trial rM_words iM_fewestBreaths iM_orderMany iM_orderSum iM_leastOrder rM_often iM_setMany iM_someOf iM_allOf iM_allWeight iM_enoughWeight iM_worthSum iM_firstRest iM_leastDrawn), (arI rM_r kM_r 287 fM_r), (arI rM_told kM_told 90 fM_told), (arI rQ kQ 90 fQ)] [(kM_r, .int), (kM_told, .int), (kQ, .int)])) (va_Qi (fun (r : Int32) (_ : Nat) => True ∧ (r = rval fM_r fM_told fQ iM_scale n9 p0.toNatClampNeg)) (fun (_ : Nat) (t : State) => Bw dC dI (va_A [(oc7 oM iM_thrown rM_tape iM_taped iM_size iM_at iM_end iM_token iM_whole iM_nameSize iM_fault iM_place iM_trouble rM_letters iM_failed iM_hasCourt rM_r rM_fresh rM_told rM_read rM_st rM_undone rM_kept iM_undos iM_images rM_fresher iM_fresherSize iM_scale iM_night rM_heardRow rM_cutRow iM_breaths iM_cutMany iM_allBreaths rM_trial rM_words iM_fewestBreaths iM_orderMany iM_orderSum iM_leastOrder rM_often iM_setMany iM_someOf iM_allOf iM_allWeight iM_enoughWeight iM_worthSum iM_firstRest iM_leastDrawn), (arI rM_r kM_r 287 fM_r), (arI rM_told kM_told 90 fM_told), (arI rQ kQ 90 fQ)] sz) [(oc7 oM iM_thrown rM_tape iM_taped iM_size iM_at iM_end iM_token iM_whole iM_nameSize iM_fault iM_place iM_trouble rM_letters iM_failed iM_hasCourt rM_r rM_fresh rM_told rM_read rM_st rM_undone rM_kept iM_undos iM_images rM_fresher iM_fresherSize iM_scale iM_night rM_heardRow rM_cutRow iM_breaths iM_cutMany iM_allBreaths rM_trial rM_words iM_fewestBreaths iM_orderMany iM_orderSum iM_leastOrder rM_often iM_setMany iM_someOf iM_allOf iM_allWeight iM_enoughWeight iM_worthSum iM_firstRest iM_leastDrawn), (arI rM_r kM_r 287 fM_r), (arI rM_told kM_told 90 fM_told), (arI rQ kQ 90 fQ)] [(kM_r, .int), (kM_told, .int), (kQ, .int)] t) (va_A [(oc7 oM iM_thrown rM_tape iM_taped iM_size iM_at iM_end iM_token iM_whole iM_nameSize iM_fault iM_place iM_trouble rM_letters iM_failed iM_hasCourt rM_r rM_fresh rM_told rM_read rM_st rM_undone rM_kept iM_undos iM_images rM_fresher iM_fresherSize iM_scale iM_night rM_heardRow rM_cutRow iM_breaths iM_cutMany iM_allBreaths rM_trial rM_words iM_fewestBreaths iM_orderMany iM_orderSum iM_leastOrder rM_often iM_setMany iM_someOf iM_allOf iM_allWeight iM_enoughWeight iM_worthSum iM_firstRest iM_leastDrawn), (arI rM_r kM_r 287 fM_r), (arI rM_told kM_told 90 fM_told), (arI rQ kQ 90 fQ)] sz)) 0 0 (va_A [(oc7 oM iM_thrown rM_tape iM_taped iM_size iM_at iM_end iM_token iM_whole iM_nameSize iM_fault iM_place iM_trouble rM_letters iM_failed iM_hasCourt rM_r rM_fresh rM_told rM_read rM_st rM_undone rM_kept iM_undos iM_images rM_fresher iM_fresherSize iM_scale iM_night rM_heardRow rM_cutRow iM_breaths iM_cutMany iM_allBreaths rM_trial rM_words iM_fewestBreaths iM_orderMany iM_orderSum iM_leastOrder rM_often iM_setMany iM_someOf iM_allOf iM_allWeight iM_enoughWeight iM_worthSum iM_firstRest iM_leastDrawn), (arI rM_r kM_r 287 fM_r), (arI rM_told kM_told 90 fM_told), (arI rQ kQ 90 fQ)] sz) := by
  intro n9
  induction n9 with
  | zero => intro sz oM iM_thrown rM_tape iM_taped iM_size iM_at iM_end iM_token iM_whole iM_nameSize iM_fault iM_place iM_trouble rM_letters iM_failed iM_hasCourt rM_r fM_r kM_r rM_fresh rM_told fM_told kM_told rM_read rM_st rM_undone rM_kept iM_undos iM_images rM_fresher iM_fresherSize iM_scale iM_night rM_heardRow rM_cutRow iM_breaths iM_cutMany iM_allBreaths rM_trial rM_words iM_fewestBreaths iM_orderMany iM_orderSum iM_leastOrder rM_often iM_setMany iM_someOf iM_allOf iM_allWeight iM_enoughWeight iM_worthSum iM_firstRest iM_leastDrawn rQ fQ kQ p0 p1 b_iM_taped b_iM_size b_iM_end b_iM_failed b_iM_hasCourt b_iM_undos b_iM_images b_iM_scale b_iM_breaths b_iM_cutMany r_R r_C r_told r_Q hk0 hnt hdp hn9; exact absurd hn9 (by omega)
  | succ n9 ih9 =>
    intro sz oM iM_thrown rM_tape iM_taped iM_size iM_at iM_end iM_token iM_whole iM_nameSize iM_fault iM_place iM_trouble rM_letters iM_failed iM_hasCourt rM_r fM_r kM_r rM_fresh rM_told fM_told kM_told rM_read rM_st rM_undone rM_kept iM_undos iM_images rM_fresher iM_fresherSize iM_scale iM_night rM_heardRow rM_cutRow iM_breaths iM_cutMany iM_allBreaths rM_trial rM_words iM_fewestBreaths iM_orderMany iM_orderSum iM_leastOrder rM_often iM_setMany iM_someOf iM_allOf iM_allWeight iM_enoughWeight iM_worthSum iM_firstRest iM_leastDrawn rQ fQ kQ p0 p1 b_iM_taped b_iM_size b_iM_end b_iM_failed b_iM_hasCourt b_iM_undos b_iM_images b_iM_scale b_iM_breaths b_iM_cutMany r_R r_C r_told r_Q hk0 hnt hdp hn9
    refine Met.ofW (cc := cX7_worthAt) (maxL := 9) (ret := (some .int)) (by decide) rfl ?_
    intro p e s m args below meth c s₁ B hml hv
    obtain ⟨rfl, hsz, hP, hK, hD0, hE⟩ := hv
    have hx := B.exec
    have hb := B.bytes
    have hr := B.returns
    have hts : ∀ w ∈ wG, w.before ([.ref oM, .ref rQ, .int p0, .int p1] : List Value).toArray s = true := fun w h => atoms_spec (ws := Cond.code yX7_worthAt cX7_worthAt 9 (some .int) :: wG) B.pre w (List.mem_cons_of_mem _ h)
    have hown : s.vm.findClass RX7 = some m.cls := findClass_of_methodNamed B.named
    have hlocks := B.notSynchronized
    subst hsz
    have hD := hD0.self (sz := s.heap.size)
    generalize hAe : va_A [(oc7 oM iM_thrown rM_tape iM_taped iM_size iM_at iM_end iM_token iM_whole iM_nameSize iM_fault iM_place iM_trouble rM_letters iM_failed iM_hasCourt rM_r rM_fresh rM_told rM_read rM_st rM_undone rM_kept iM_undos iM_images rM_fresher iM_fresherSize iM_scale iM_night rM_heardRow rM_cutRow iM_breaths iM_cutMany iM_allBreaths rM_trial rM_words iM_fewestBreaths iM_orderMany iM_orderSum iM_leastOrder rM_often iM_setMany iM_someOf iM_allOf iM_allWeight iM_enoughWeight iM_worthSum iM_firstRest iM_leastDrawn), (arI rM_r kM_r 287 fM_r), (arI rM_told kM_told 90 fM_told), (arI rQ kQ 90 fQ)] s.heap.size = A at hD hE ⊢
    have hA : ∀ q : Nat, s.heap.size ≤ q → A q := fun q h => by rw [← hAe]; exact Or.inr h
    have hS : va_S A s.heap s.heap [] := va_S.rf
    have hl := lv_entry ([.ref oM, .ref rQ, .int p0, .int p1]) (n := 9) (Nat.le_of_ble_eq_true rfl)
    rw [lg_entry_eq]
    generalize (lg_sl ([.ref oM, .ref rQ, .int p0, .int p1]) ++ List.replicate (9 - (lg_sl ([.ref oM, .ref rQ, .int p0, .int p1])).length) Slot.unset).toArray = ls at hl ⊢
    have hl : lv_has ls 9 [(0, .ref oM), (1, .ref rQ), (2, .int p0), (3, .int p1)] := hl
    have s_slips := r_R.slips
    have s_nodes := r_R.nodes
    have s_uns := r_R.uns
    have q_p0 := ti_cl (x := p0) rfl (by omega)
    have mn_p0 := r_R.many (27 + p0.toNatClampNeg) (by omega) (by omega)
    have kn_p0 := r_R.kind (9 + p0.toNatClampNeg) (by omega) (by omega)
    have in_p0 := r_R.inner p0.toNatClampNeg (by omega)
    refine lv_aload_n hx hb dX7_worthAt_0 rfl (lv_at hl 0 rfl) ?_
    refine va_get (D := (dC, dI)) (ci := 7) (v := .ref rM_r) (C := RX7) (T := TX7) (N := 48) hx hb hts inX7 hown hK hP 0 rfl rfl 15 (by decide) (hts _ wd_155) (fun _ h9 => h9) rfl dX7_worthAt_1 ?_
    refine lv_bipush (v := 9) hx hb dX7_worthAt_4 (by decide) ?_
    refine lv_iload_n hx hb dX7_worthAt_6 rfl (lv_at hl 2 rfl) ?_
    refine lv_iadd hx hb dX7_worthAt_7 ?_
    refine lv_topi (fun x_4596 ex_4596 => ?_)
    have vx_4596 : x_4596.toInt = p0.toInt + 9 := by have q := ti_add ex_4596 kc_9 rfl (by omega) (by omega); omega
    refine va_iald hx hb hK hP 1 0 rfl rfl (ti_in vx_4596 (by omega) (by omega)) dX7_worthAt_8 ?_
    refine lv_topi (fun x_4597 ex_4597 => ?_)
    have kx_4597 : (fM_r x_4596.toNatClampNeg).toInt = x_4597.toInt := by rw [ex_4597]
    have cx_4597 : (fM_r (9 + p0.toNatClampNeg)).toInt = x_4597.toInt := by rw [show 9 + p0.toNatClampNeg = x_4596.toNatClampNeg from by have q9 := ti_cl (x := x_4596) vx_4596 (by omega); have q_p0 := ti_cl (x := p0) rfl (by omega); omega]; exact kx_4597
    have sx_4597 := r_R.kind x_4596.toNatClampNeg (by have q9 := ti_cl (x := x_4596) vx_4596 (by omega); omega) (by have q9 := ti_cl (x := x_4596) vx_4596 (by omega); omega)
    refine lv_istore (lv' := [(4, .int x_4597), (0, .ref oM), (1, .ref rQ), (2, .int p0), (3, .int p1)]) hx hb dX7_worthAt_9 hl (by decide) rfl (fun ls hl => ?_)
    refine lv_iload hx hb dX7_worthAt_11 (lv_at hl 0 rfl) ?_
    refine lv_if_ne (tgt := 28) hx hb dX7_worthAt_13 (by decide) (fun c_4598 => ?_) (fun c_4598 => ?_)
    · skip
      have gc_4598 := ti_ne c_4598 rfl kc_0
      refine lv_iload_n hx hb dX7_worthAt_28 rfl (lv_at hl 4 rfl) ?_
      refine lv_aload_n hx hb dX7_worthAt_29 rfl (lv_at hl 1 rfl) ?_
      refine va_get (D := (dC, dI)) (ci := 7) (v := .int iM_night) (C := RX7) (T := TX7) (N := 48) hx hb hts inX7 hown hK hP 0 rfl rfl 27 (by decide) (hts _ wd_164) (fun _ h9 => h9) rfl dX7_worthAt_30 ?_
      refine lv_icmp_ne (tgt := 44) hx hb dX7_worthAt_33 (by decide) (fun c_4599 => ?_) (fun c_4599 => ?_)
      · skip
        have gc_4599 := ti_ne c_4599 rfl rfl
        refine lv_iload hx hb dX7_worthAt_44 (lv_at hl 0 rfl) ?_
        refine lv_iconst (v := 2) hx hb dX7_worthAt_46 (by decide) ?_
        refine lv_icmp_ne (tgt := 55) hx hb dX7_worthAt_47 (by decide) (fun c_4600 => ?_) (fun c_4600 => ?_)
        · skip
          have gc_4600 := ti_ne c_4600 rfl kc_2
          refine lv_iload hx hb dX7_worthAt_55 (lv_at hl 0 rfl) ?_
          refine lv_iconst (v := 1) hx hb dX7_worthAt_57 (by decide) ?_
          refine lv_icmp_ne (tgt := 66) hx hb dX7_worthAt_58 (by decide) (fun c_4601 => ?_) (fun c_4601 => ?_)
          · skip
            have gc_4601 := ti_ne c_4601 rfl kc_1
            refine lv_iconst (v := 0) hx hb dX7_worthAt_66 (by decide) ?_
            refine lv_istore (lv' := [(5, .int 0), (4, .int x_4597), (0, .ref oM), (1, .ref rQ), (2, .int p0), (3, .int p1)]) hx hb dX7_worthAt_67 hl (by decide) rfl (fun ls hl => ?_)
            refine lv_iconst (v := 0) hx hb dX7_worthAt_69 (by decide) ?_
            refine lv_istore (lv' := [(6, .int 0), (5, .int 0), (4, .int x_4597), (0, .ref oM), (1, .ref rQ), (2, .int p0), (3, .int p1)]) hx hb dX7_worthAt_70 hl (by decide) rfl (fun ls hl => ?_)
            have hl := lv_sub hl (l' := [(6, .int 0), (5, .int 0), (4, .int x_4597), (0, .ref oM), (1, .ref rQ), (2, .int p0), (3, .int p1)]) [0, 1, 2, 3, 4, 5, 6] rfl
            have key_n_4604 : ∀ (n_4604 : Nat) (z_4602 : Int32) (z_4603 : Int32) (H : Heap) (locs : List Loc) (ls : Array Slot), (0 ≤ z_4602.toInt ∧ z_4602.toInt ≤ (fM_r (27 + p0.toNatClampNeg)).toInt) → (z_4603 = foldV (fM_r (9 + p0.toNatClampNeg)).toInt (startV (fM_r (9 + p0.toNatClampNeg)).toInt) (VF fM_r fM_told fQ iM_scale n9 p0.toNatClampNeg) (WF fM_r fM_told fQ p0.toNatClampNeg) z_4602.toNatClampNeg) → (4 - z_4602.toInt).toNat < n_4604 → va_P (dC, dI) vwCl [(oc7 oM iM_thrown rM_tape iM_taped iM_size iM_at iM_end iM_token iM_whole iM_nameSize iM_fault iM_place iM_trouble rM_letters iM_failed iM_hasCourt rM_r rM_fresh rM_told rM_read rM_st rM_undone rM_kept iM_undos iM_images rM_fresher iM_fresherSize iM_scale iM_night rM_heardRow rM_cutRow iM_breaths iM_cutMany iM_allBreaths rM_trial rM_words iM_fewestBreaths iM_orderMany iM_orderSum iM_leastOrder rM_often iM_setMany iM_someOf iM_allOf iM_allWeight iM_enoughWeight iM_worthSum iM_firstRest iM_leastDrawn), (arI rM_r kM_r 287 fM_r), (arI rM_told kM_told 90 fM_told), (arI rQ kQ 90 fQ)] H → va_D A [(oc7 oM iM_thrown rM_tape iM_taped iM_size iM_at iM_end iM_token iM_whole iM_nameSize iM_fault iM_place iM_trouble rM_letters iM_failed iM_hasCourt rM_r rM_fresh rM_told rM_read rM_st rM_undone rM_kept iM_undos iM_images rM_fresher iM_fresherSize iM_scale iM_night rM_heardRow rM_cutRow iM_breaths iM_cutMany iM_allBreaths rM_trial rM_words iM_fewestBreaths iM_orderMany iM_orderSum iM_leastOrder rM_often iM_setMany iM_someOf iM_allOf iM_allWeight iM_enoughWeight iM_worthSum iM_firstRest iM_leastDrawn), (arI rM_r kM_r 287 fM_r), (arI rM_told kM_told 90 fM_told), (arI rQ kQ 90 fQ)] → va_S A s.heap H locs → lv_has ls 9 [(6, .int z_4602), (5, .int z_4603), (4, .int x_4597), (0, .ref oM), (1, .ref rQ), (2, .int p0), (3, .int p1)] → W p l e (headSpec (Cond.code yX7_worthAt cX7_worthAt 9 (some .int) :: wG) ({ frames := 1 + (n9 + 1), cells := 0, slots := 0, locals := 10 + 28 * (n9 + 1) })).room s m ([.ref oM, .ref rQ, .int p0, .int p1] : List Value).toArray below meth c H locs 0 0 (MQ below (va_Qi (fun (r : Int32) (_ : Nat) => True ∧ (r = rval fM_r fM_told fQ iM_scale (n9 + 1) p0.toNatClampNeg)) (fun (_ : Nat) (t : State) => Bw dC dI A [(oc7 oM iM_thrown rM_tape iM_taped iM_size iM_at iM_end iM_token iM_whole iM_nameSize iM_fault iM_place iM_trouble rM_letters iM_failed iM_hasCourt rM_r rM_fresh rM_told rM_read rM_st rM_undone rM_kept iM_undos iM_images rM_fresher iM_fresherSize iM_scale iM_night rM_heardRow rM_cutRow iM_breaths iM_cutMany iM_allBreaths rM_trial rM_words iM_fewestBreaths iM_orderMany iM_orderSum iM_leastOrder rM_often iM_setMany iM_someOf iM_allOf iM_allWeight iM_enoughWeight iM_worthSum iM_firstRest iM_leastDrawn), (arI rM_r kM_r 287 fM_r), (arI rM_told kM_told 90 fM_told), (arI rQ kQ 90 fQ)] [(kM_r, .int), (kM_told, .int), (kQ, .int)] t) A) ([.ref oM, .ref rQ, .int p0, .int p1] : List Value).toArray s 0 0 A) (F0 m 72 ls []) := by
              intro n_4604
              induction n_4604 with
              | zero => intro z_4602 z_4603 H locs ls hi0_n_4604 hi1_n_4604 hm; exact absurd hm (by omega)
              | succ n_4604 ih_n_4604 =>
                intro z_4602 z_4603 H locs ls hi0_n_4604 hi1_n_4604 hm hP hD hS hl
                refine lv_iload hx hb dX7_worthAt_72 (lv_at hl 0 rfl) ?_
                refine lv_aload_n hx hb dX7_worthAt_74 rfl (lv_at hl 3 rfl) ?_
                refine va_get (D := (dC, dI)) (ci := 7) (v := .ref rM_r) (C := RX7) (T := TX7) (N := 48) hx hb hts inX7 hown hK hP 0 rfl rfl 15 (by decide) (hts _ wd_155) (fun _ h9 => h9) rfl dX7_worthAt_75 ?_
                refine lv_bipush (v := 27) hx hb dX7_worthAt_78 (by decide) ?_
                refine lv_iload_n hx hb dX7_worthAt_80 rfl (lv_at hl 5 rfl) ?_
                refine lv_iadd hx hb dX7_worthAt_81 ?_
                refine lv_topi (fun x_4605 ex_4605 => ?_)
                have vx_4605 : x_4605.toInt = p0.toInt + 27 := by have q := ti_add ex_4605 kc_27 rfl (by omega) (by omega); omega
                refine va_iald hx hb hK hP 1 0 rfl rfl (ti_in vx_4605 (by omega) (by omega)) dX7_worthAt_82 ?_
                refine lv_topi (fun x_4606 ex_4606 => ?_)
                have kx_4606 : (fM_r x_4605.toNatClampNeg).toInt = x_4606.toInt := by rw [ex_4606]
                have cx_4606 : (fM_r (27 + p0.toNatClampNeg)).toInt = x_4606.toInt := by rw [show 27 + p0.toNatClampNeg = x_4605.toNatClampNeg from by have q9 := ti_cl (x := x_4605) vx_4605 (by omega); have q_p0 := ti_cl (x := p0) rfl (by omega); omega]; exact kx_4606
                have sx_4606 := r_R.many x_4605.toNatClampNeg (by have q9 := ti_cl (x := x_4605) vx_4605 (by omega); omega) (by have q9 := ti_cl (x := x_4605) vx_4605 (by omega); omega)
                refine lv_icmp_ge (tgt := 179) hx hb dX7_worthAt_83 (by decide) (fun c_4607 => ?_) (fun c_4607 => ?_)
                · skip
                  have gc_4607 := ti_le c_4607 rfl rfl
                  refine lv_iload hx hb dX7_worthAt_179 (lv_at hl 2 rfl) ?_
                  refine lv_iconst (v := 3) hx hb dX7_worthAt_181 (by decide) ?_
                  refine lv_icmp_ne (tgt := 196) hx hb dX7_worthAt_182 (by decide) (fun c_4608 => ?_) (fun c_4608 => ?_)
                  · skip
                    have gc_4608 := ti_ne c_4608 rfl kc_3
                    refine lv_iload hx hb dX7_worthAt_196 (lv_at hl 1 rfl) ?_
                    exact W.iret hx hb hr (fun t ht hW => ⟨⟨_, 0, rfl, ⟨trivial, (rval_fold (by omega) (by omega) hi1_n_4604 (by have q1 := ti_cl (x := z_4602) rfl (by omega); omega))⟩, Bw.to (hP.sub [0, 1, 2, 3] rfl) (hD.sub [0, 1, 2, 3] (by decide) rfl) (hK.sub [0, 1, 2] rfl) ht hW⟩, hS.F ht⟩) hS.2.2 dX7_worthAt_198
                  · skip
                    have gc_4608 := ti_eq c_4608 rfl kc_3
                    refine lv_iload hx hb dX7_worthAt_185 (lv_at hl 1 rfl) ?_
                    refine lv_aload_n hx hb dX7_worthAt_187 rfl (lv_at hl 3 rfl) ?_
                    refine lv_iload_n hx hb dX7_worthAt_188 rfl (lv_at hl 5 rfl) ?_
                    have hFc := va_free (wc := [(oc7 oM iM_thrown rM_tape iM_taped iM_size iM_at iM_end iM_token iM_whole iM_nameSize iM_fault iM_place iM_trouble rM_letters iM_failed iM_hasCourt rM_r rM_fresh rM_told rM_read rM_st rM_undone rM_kept iM_undos iM_images rM_fresher iM_fresherSize iM_scale iM_night rM_heardRow rM_cutRow iM_breaths iM_cutMany iM_allBreaths rM_trial rM_words iM_fewestBreaths iM_orderMany iM_orderSum iM_leastOrder rM_often iM_setMany iM_someOf iM_allOf iM_allWeight iM_enoughWeight iM_worthSum iM_firstRest iM_leastDrawn), (arI rM_r kM_r 287 fM_r)]) hD hS hA [0, 1] rfl
                    refine va_calli (va_runV (As := [.int p0]) (rest := [.int z_4603]) ⟨hx, hb, hml, hown, hts⟩ (tX7_weightsOf_x l dC dI _ oM iM_thrown rM_tape iM_taped iM_size iM_at iM_end iM_token iM_whole iM_nameSize iM_fault iM_place iM_trouble rM_letters iM_failed iM_hasCourt rM_r fM_r kM_r rM_fresh rM_told rM_read rM_st rM_undone rM_kept iM_undos iM_images rM_fresher iM_fresherSize iM_scale iM_night rM_heardRow rM_cutRow iM_breaths iM_cutMany iM_allBreaths rM_trial rM_words iM_fewestBreaths iM_orderMany iM_orderSum iM_leastOrder rM_often iM_setMany iM_someOf iM_allOf iM_allWeight iM_enoughWeight iM_worthSum iM_firstRest iM_leastDrawn p0 (by first | omega | decide) (by first | omega | decide) (by first | omega | decide) (by first | omega | decide) (by first | omega | decide) (by first | omega | decide) (by first | omega | decide) (by first | omega | decide) (by first | omega | decide) (by first | omega | decide) (by assumption) (by assumption) (by first | omega | decide | assumption | (have q0 := kc_0; have q1 := kc_1; omega) | (intro h; exact absurd h (by decide))) (by first | omega | decide | assumption | (have q0 := kc_0; have q1 := kc_1; omega) | (intro h; exact absurd h (by decide)))) (cwV 1 hts (wd_V wd_506 wd_507 wd_508 wd_5 (wd_c wd_509)) rfl rfl rfl (by decide +kernel) ⟨(show (0) + 1 ≤ 1 + (n9 + 1) by omega), (show 8 + (4 + 11) + (0) ≤ 10 + 28 * (n9 + 1) by omega)⟩) ⟨Pw.fb, va_recv hK hP (ci := 7) (q0 := 0) rfl rfl, fun U hU hW => Pw.to (hP.sub [0, 1] rfl) (hD.sub [0, 1] (by decide) rfl) (hK.sub [0] rfl) hE hS hFc hU hW⟩ rfl rfl hl.1 rfl (lv_room (Nat.le_of_ble_eq_true rfl)) dX7_worthAt_189 ⟨Nat.le_of_ble_eq_true rfl, Nat.le_of_ble_eq_true rfl⟩) hS (fun q _ h => hFc q h) hFc (fun r u t H locs ht hvm hw hB hz1 hk1 hS => ?_)
                    obtain ⟨hP, hD, hK⟩ := Bw.go (ws' := [(arI rM_told kM_told 90 fM_told), (arI rQ kQ 90 fQ), (oc7 oM iM_thrown rM_tape iM_taped iM_size iM_at iM_end iM_token iM_whole iM_nameSize iM_fault iM_place iM_trouble rM_letters iM_failed iM_hasCourt rM_r rM_fresh rM_told rM_read rM_st rM_undone rM_kept iM_undos iM_images rM_fresher iM_fresherSize iM_scale iM_night rM_heardRow rM_cutRow iM_breaths iM_cutMany iM_allBreaths rM_trial rM_words iM_fewestBreaths iM_orderMany iM_orderSum iM_leastOrder rM_often iM_setMany iM_someOf iM_allOf iM_allWeight iM_enoughWeight iM_worthSum iM_firstRest iM_leastDrawn), (arI rM_r kM_r 287 fM_r)]) (tys' := [(kM_told, .int), (kQ, .int), (kM_r, .int)]) hB rfl ht hvm hP hD hK [0, 1] [2, 3] rfl (by decide) (by decide) [1, 2] hk1 hFc rfl rfl rfl
                    clear hz1 hk1 hvm ht hB
                    obtain ⟨x_4609, rfl⟩ : ∃ z, z = r := ⟨_, rfl⟩
                    have lx_4609 := hw.2
                    have ux_4609 := hw.2
                    refine lv_idiv hx hb dX7_worthAt_192 (ti_n0 rfl (by omega)) ?_
                    refine lv_topi (fun x_4610 ex_4610 => ?_)
                    refine lv_goto (tgt := 198) hx hb dX7_worthAt_193 (by decide) ?_
                    exact W.iret hx hb hr (fun t ht hW => ⟨⟨_, 0, rfl, ⟨trivial, (rval_ch (by omega) hi1_n_4604 (by have q1 := ti_cl (x := z_4602) rfl (by omega); omega) lx_4609.2 ex_4610)⟩, Bw.to (hP.sub [2, 3, 0, 1] rfl) (hD.sub [2, 3, 0, 1] (by decide) rfl) (hK.sub [2, 0, 1] rfl) ht hW⟩, hS.F ht⟩) hS.2.2 dX7_worthAt_198
                · skip
                  have gc_4607 := ti_nle c_4607 rfl rfl
                  refine lv_aload_n hx hb dX7_worthAt_86 rfl (lv_at hl 4 rfl) ?_
                  refine lv_iconst (v := 4) hx hb dX7_worthAt_87 (by decide) ?_
                  refine lv_iload_n hx hb dX7_worthAt_88 rfl (lv_at hl 5 rfl) ?_
                  refine lv_imul hx hb dX7_worthAt_89 ?_
                  refine lv_topi (fun x_4611 ex_4611 => ?_)
                  have vx_4611 : x_4611.toInt = 4 * p0.toInt := by have q := ti_mul ex_4611 kc_4 rfl (by omega) (by omega); omega
                  refine lv_iload hx hb dX7_worthAt_90 (lv_at hl 0 rfl) ?_
                  refine lv_iadd hx hb dX7_worthAt_92 ?_
                  refine lv_topi (fun x_4612 ex_4612 => ?_)
                  have vx_4612 : x_4612.toInt = 4 * p0.toInt + z_4602.toInt := by have q := ti_add ex_4612 vx_4611 rfl (by omega) (by omega); omega
                  refine va_iald hx hb hK hP 3 2 rfl rfl (ti_in vx_4612 (by omega) (by omega)) dX7_worthAt_93 ?_
                  refine lv_topi (fun x_4613 ex_4613 => ?_)
                  have kx_4613 : (fQ x_4612.toNatClampNeg).toInt = x_4613.toInt := by rw [ex_4613]
                  have cx_4613 : (fQ (4 * p0.toNatClampNeg + z_4602.toNatClampNeg)).toInt = x_4613.toInt := by rw [show 4 * p0.toNatClampNeg + z_4602.toNatClampNeg = x_4612.toNatClampNeg from by have q9 := ti_cl (x := x_4612) vx_4612 (by omega); have q_p0 := ti_cl (x := p0) rfl (by omega); have q_z_4602 := ti_cl (x := z_4602) rfl (by omega); omega]; exact kx_4613
                  have wx_4613 := r_Q.lt p0.toNatClampNeg (z_4602.toNatClampNeg) (by have q_1 := ti_cl (x := p0) rfl (by omega); have q_2 := ti_cl (x := z_4602) rfl (by omega); omega) (by have q_1 := ti_cl (x := p0) rfl (by omega); have q_2 := ti_cl (x := z_4602) rfl (by omega); omega)
                  have wx_4613 : 0 ≤ x_4613.toInt ∧ x_4613.toInt < p0.toInt := by have q_1 := ti_cl (x := p0) rfl (by omega); have q_2 := ti_cl (x := z_4602) rfl (by omega); have q_3 := cx_4613; rw [show 4 * p0.toNatClampNeg + (z_4602.toNatClampNeg) = 4 * p0.toNatClampNeg + z_4602.toNatClampNeg from by omega] at wx_4613; omega
                  refine lv_istore (lv' := [(7, .int x_4613), (6, .int z_4602), (5, .int z_4603), (4, .int x_4597), (0, .ref oM), (1, .ref rQ), (2, .int p0), (3, .int p1)]) hx hb dX7_worthAt_94 hl (by decide) rfl (fun ls hl => ?_)
                  refine lv_aload_n hx hb dX7_worthAt_96 rfl (lv_at hl 4 rfl) ?_
                  refine lv_aload_n hx hb dX7_worthAt_97 rfl (lv_at hl 5 rfl) ?_
                  refine lv_iload hx hb dX7_worthAt_98 (lv_at hl 0 rfl) ?_
                  refine lv_iload_n hx hb dX7_worthAt_100 rfl (lv_at hl 7 rfl) ?_
                  refine lv_iconst (v := 1) hx hb dX7_worthAt_101 (by decide) ?_
                  refine lv_iadd hx hb dX7_worthAt_102 ?_
                  refine lv_topi (fun x_4614 ex_4614 => ?_)
                  have vx_4614 : x_4614.toInt = p1.toInt + 1 := by have q := ti_add ex_4614 rfl kc_1 (by omega) (by omega); omega
                  have hFc := va_free (wc := [(oc7 oM iM_thrown rM_tape iM_taped iM_size iM_at iM_end iM_token iM_whole iM_nameSize iM_fault iM_place iM_trouble rM_letters iM_failed iM_hasCourt rM_r rM_fresh rM_told rM_read rM_st rM_undone rM_kept iM_undos iM_images rM_fresher iM_fresherSize iM_scale iM_night rM_heardRow rM_cutRow iM_breaths iM_cutMany iM_allBreaths rM_trial rM_words iM_fewestBreaths iM_orderMany iM_orderSum iM_leastOrder rM_often iM_setMany iM_someOf iM_allOf iM_allWeight iM_enoughWeight iM_worthSum iM_firstRest iM_leastDrawn), (arI rM_r kM_r 287 fM_r), (arI rM_told kM_told 90 fM_told), (arI rQ kQ 90 fQ)]) hD hS hA [0, 1, 2, 3] rfl
                  refine va_calli (va_runV (As := [.ref rQ, .int x_4613, .int x_4614]) (rest := []) ⟨hx, hb, hml, hown, hts⟩ (ih9 _ oM iM_thrown rM_tape iM_taped iM_size iM_at iM_end iM_token iM_whole iM_nameSize iM_fault iM_place iM_trouble rM_letters iM_failed iM_hasCourt rM_r fM_r kM_r rM_fresh rM_told fM_told kM_told rM_read rM_st rM_undone rM_kept iM_undos iM_images rM_fresher iM_fresherSize iM_scale iM_night rM_heardRow rM_cutRow iM_breaths iM_cutMany iM_allBreaths rM_trial rM_words iM_fewestBreaths iM_orderMany iM_orderSum iM_leastOrder rM_often iM_setMany iM_someOf iM_allOf iM_allWeight iM_enoughWeight iM_worthSum iM_firstRest iM_leastDrawn rQ fQ kQ x_4613 x_4614 (by first | omega | decide) (by first | omega | decide) (by first | omega | decide) (by first | omega | decide) (by first | omega | decide) (by first | omega | decide) (by first | omega | decide) (by first | omega | decide) (by first | omega | decide) (by first | omega | decide) (by assumption) (by assumption) (by assumption) (by assumption) (by first | omega | decide | assumption | (have q0 := kc_0; have q1 := kc_1; omega) | (intro h; exact absurd h (by decide))) (by first | omega | decide | assumption | (have q0 := kc_0; have q1 := kc_1; omega) | (intro h; exact absurd h (by decide))) (by first | omega | decide | assumption | (have q0 := kc_0; have q1 := kc_1; omega) | (intro h; exact absurd h (by decide))) (by first | omega | decide | assumption | (have q0 := kc_0; have q1 := kc_1; omega) | (intro h; exact absurd h (by decide)))) (cwV 3 hts (wd_V wd_649 wd_650 wd_651 wd_5 (wd_c wd_652)) rfl rfl rfl (by decide +kernel) ⟨(show (1 + n9) + 1 ≤ 1 + (n9 + 1) by omega), (show 8 + (9 + 11) + (10 + 28 * n9) ≤ 10 + 28 * (n9 + 1) by omega)⟩) ⟨Pw.fb, va_recv hK hP (ci := 7) (q0 := 0) rfl rfl, fun U hU hW => Pw.to (hP.sub [0, 1, 2, 3] rfl) (hD.sub [0, 1, 2, 3] (by decide) rfl) (hK.sub [0, 1, 2] rfl) hE hS hFc hU hW⟩ rfl rfl hl.1 rfl (lv_room (Nat.le_of_ble_eq_true rfl)) dX7_worthAt_103 ⟨Nat.le_of_ble_eq_true rfl, Nat.le_of_ble_eq_true rfl⟩) hS (fun q _ h => hFc q h) hFc (fun r u t H locs ht hvm hw hB hz1 hk1 hS => ?_)
                  obtain ⟨hP, hD, hK⟩ := Bw.go (ws' := [(oc7 oM iM_thrown rM_tape iM_taped iM_size iM_at iM_end iM_token iM_whole iM_nameSize iM_fault iM_place iM_trouble rM_letters iM_failed iM_hasCourt rM_r rM_fresh rM_told rM_read rM_st rM_undone rM_kept iM_undos iM_images rM_fresher iM_fresherSize iM_scale iM_night rM_heardRow rM_cutRow iM_breaths iM_cutMany iM_allBreaths rM_trial rM_words iM_fewestBreaths iM_orderMany iM_orderSum iM_leastOrder rM_often iM_setMany iM_someOf iM_allOf iM_allWeight iM_enoughWeight iM_worthSum iM_firstRest iM_leastDrawn), (arI rM_r kM_r 287 fM_r), (arI rM_told kM_told 90 fM_told), (arI rQ kQ 90 fQ)]) (tys' := [(kM_r, .int), (kM_told, .int), (kQ, .int)]) hB rfl ht hvm hP hD hK [0, 1, 2, 3] [] rfl (by decide) (by decide) [] hk1 hFc rfl rfl rfl
                  clear hz1 hk1 hvm ht hB
                  obtain ⟨x_4615, rfl⟩ : ∃ z, z = r := ⟨_, rfl⟩
                  have lx_4615 := hw.2
                  refine lv_istore (lv' := [(8, .int x_4615), (7, .int x_4613), (6, .int z_4602), (5, .int z_4603), (4, .int x_4597), (0, .ref oM), (1, .ref rQ), (2, .int p0), (3, .int p1)]) hx hb dX7_worthAt_106 hl (by decide) rfl (fun ls hl => ?_)
                  refine lv_iload hx hb dX7_worthAt_108 (lv_at hl 4 rfl) ?_
                  refine lv_iconst (v := 1) hx hb dX7_worthAt_110 (by decide) ?_
                  refine lv_icmp_ne (tgt := 133) hx hb dX7_worthAt_111 (by decide) (fun c_4616 => ?_) (fun c_4616 => ?_)
                  · skip
                    have gc_4616 := ti_ne c_4616 rfl kc_1
                    refine lv_iload hx hb dX7_worthAt_133 (lv_at hl 4 rfl) ?_
                    refine lv_iconst (v := 2) hx hb dX7_worthAt_135 (by decide) ?_
                    refine lv_icmp_ne (tgt := 158) hx hb dX7_worthAt_136 (by decide) (fun c_4617 => ?_) (fun c_4617 => ?_)
                    · skip
                      have gc_4617 := ti_ne c_4617 rfl kc_2
                      refine lv_iload hx hb dX7_worthAt_158 (lv_at hl 3 rfl) ?_
                      refine lv_iload hx hb dX7_worthAt_160 (lv_at hl 0 rfl) ?_
                      refine lv_aload_n hx hb dX7_worthAt_162 rfl (lv_at hl 5 rfl) ?_
                      refine lv_iload_n hx hb dX7_worthAt_163 rfl (lv_at hl 7 rfl) ?_
                      refine lv_iload hx hb dX7_worthAt_164 (lv_at hl 1 rfl) ?_
                      have hFc := va_free (wc := [(oc7 oM iM_thrown rM_tape iM_taped iM_size iM_at iM_end iM_token iM_whole iM_nameSize iM_fault iM_place iM_trouble rM_letters iM_failed iM_hasCourt rM_r rM_fresh rM_told rM_read rM_st rM_undone rM_kept iM_undos iM_images rM_fresher iM_fresherSize iM_scale iM_night rM_heardRow rM_cutRow iM_breaths iM_cutMany iM_allBreaths rM_trial rM_words iM_fewestBreaths iM_orderMany iM_orderSum iM_leastOrder rM_often iM_setMany iM_someOf iM_allOf iM_allWeight iM_enoughWeight iM_worthSum iM_firstRest iM_leastDrawn), (arI rM_r kM_r 287 fM_r), (arI rM_told kM_told 90 fM_told)]) hD hS hA [0, 1, 2] rfl
                      refine va_calli (va_runV (As := [.int p0, .int x_4613]) (rest := [.int x_4615, .int z_4603]) ⟨hx, hb, hml, hown, hts⟩ (tX7_weightOf_x l dC dI _ oM iM_thrown rM_tape iM_taped iM_size iM_at iM_end iM_token iM_whole iM_nameSize iM_fault iM_place iM_trouble rM_letters iM_failed iM_hasCourt rM_r fM_r kM_r rM_fresh rM_told fM_told kM_told rM_read rM_st rM_undone rM_kept iM_undos iM_images rM_fresher iM_fresherSize iM_scale iM_night rM_heardRow rM_cutRow iM_breaths iM_cutMany iM_allBreaths rM_trial rM_words iM_fewestBreaths iM_orderMany iM_orderSum iM_leastOrder rM_often iM_setMany iM_someOf iM_allOf iM_allWeight iM_enoughWeight iM_worthSum iM_firstRest iM_leastDrawn p0 x_4613 (by first | omega | decide) (by first | omega | decide) (by first | omega | decide) (by first | omega | decide) (by first | omega | decide) (by first | omega | decide) (by first | omega | decide) (by first | omega | decide) (by first | omega | decide) (by first | omega | decide) (by assumption) (by assumption) (by assumption) (by first | omega | decide | assumption | (have q0 := kc_0; have q1 := kc_1; omega) | (intro h; exact absurd h (by decide)))) (cwV 2 hts (wd_V wd_587 wd_588 wd_589 wd_5 (wd_c wd_590)) rfl rfl rfl (by decide +kernel) ⟨(show (0) + 1 ≤ 1 + (n9 + 1) by omega), (show 8 + (4 + 11) + (0) ≤ 10 + 28 * (n9 + 1) by omega)⟩) ⟨Pw.fb, va_recv hK hP (ci := 7) (q0 := 0) rfl rfl, fun U hU hW => Pw.to (hP.sub [0, 1, 2] rfl) (hD.sub [0, 1, 2] (by decide) rfl) (hK.sub [0, 1] rfl) hE hS hFc hU hW⟩ rfl rfl hl.1 rfl (lv_room (Nat.le_of_ble_eq_true rfl)) dX7_worthAt_166 ⟨Nat.le_of_ble_eq_true rfl, Nat.le_of_ble_eq_true rfl⟩) hS (fun q _ h => hFc q h) hFc (fun r u t H locs ht hvm hw hB hz1 hk1 hS => ?_)
                      obtain ⟨hP, hD, hK⟩ := Bw.go (ws' := [(arI rQ kQ 90 fQ), (oc7 oM iM_thrown rM_tape iM_taped iM_size iM_at iM_end iM_token iM_whole iM_nameSize iM_fault iM_place iM_trouble rM_letters iM_failed iM_hasCourt rM_r rM_fresh rM_told rM_read rM_st rM_undone rM_kept iM_undos iM_images rM_fresher iM_fresherSize iM_scale iM_night rM_heardRow rM_cutRow iM_breaths iM_cutMany iM_allBreaths rM_trial rM_words iM_fewestBreaths iM_orderMany iM_orderSum iM_leastOrder rM_often iM_setMany iM_someOf iM_allOf iM_allWeight iM_enoughWeight iM_worthSum iM_firstRest iM_leastDrawn), (arI rM_r kM_r 287 fM_r), (arI rM_told kM_told 90 fM_told)]) (tys' := [(kQ, .int), (kM_r, .int), (kM_told, .int)]) hB rfl ht hvm hP hD hK [0, 1, 2] [3] rfl (by decide) (by decide) [2] hk1 hFc rfl rfl rfl
                      clear hz1 hk1 hvm ht hB
                      obtain ⟨x_4618, rfl⟩ : ∃ z, z = r := ⟨_, rfl⟩
                      have lx_4618 := hw.2
                      have ux_4618 := hw.2
                      refine lv_imul hx hb dX7_worthAt_169 ?_
                      refine lv_topi (fun x_4619 ex_4619 => ?_)
                      refine lv_iadd hx hb dX7_worthAt_170 ?_
                      refine lv_topi (fun x_4620 ex_4620 => ?_)
                      refine lv_istore (lv' := [(5, .int x_4620), (8, .int x_4615), (7, .int x_4613), (6, .int z_4602), (4, .int x_4597), (0, .ref oM), (1, .ref rQ), (2, .int p0), (3, .int p1)]) hx hb dX7_worthAt_171 hl (by decide) rfl (fun ls hl => ?_)
                      obtain ⟨x_4621, ex_4621⟩ : ∃ z : Int32, z = z_4602 + Int32.ofInt 1 := ⟨_, rfl⟩
                      have vx_4621 : x_4621.toInt = z_4602.toInt + 1 := by have q := ti_add (y := 1) ex_4621 rfl kc_1 (by omega) (by omega); omega
                      refine lv_iinc (v := x_4621) (lv' := [(6, .int x_4621), (5, .int x_4620), (8, .int x_4615), (7, .int x_4613), (4, .int x_4597), (0, .ref oM), (1, .ref rQ), (2, .int p0), (3, .int p1)]) hx hb dX7_worthAt_173 hl (k := 3) rfl ex_4621.symm (by decide) rfl (fun ls hl => ?_)
                      refine lv_goto (tgt := 72) hx hb dX7_worthAt_176 (by decide) ?_
                      exact ih_n_4604 x_4621 x_4620 _ _ _  (by first | omega | decide | assumption) (fold_step (v := x_4615) (part := x_4613) hi1_n_4604 (by have q := cx_4613; rw [show 4 * p0.toNatClampNeg + z_4602.toNatClampNeg = 4 * p0.toNatClampNeg + z_4602.toNatClampNeg from by omega]; exact q) lx_4615 (step_c (by omega) (by omega) ex_4620 ex_4619 lx_4618.2) (by have q1 := ti_cl (x := x_4621) vx_4621 (by omega); have q2 := ti_cl (x := z_4602) rfl (by omega); omega)) (by omega) (hP.sub [1, 2, 3, 0] rfl) (hD.sub [1, 2, 3, 0] (by decide) rfl) hS (lv_sub hl [0, 1, 4, 5, 6, 7, 8] rfl)
                    · skip
                      have gc_4617 := ti_eq c_4617 rfl kc_2
                      refine lv_iload hx hb dX7_worthAt_139 (lv_at hl 0 rfl) ?_
                      refine lv_iload hx hb dX7_worthAt_141 (lv_at hl 3 rfl) ?_
                      refine lv_icmp_ge (tgt := 151) hx hb dX7_worthAt_143 (by decide) (fun c_4622 => ?_) (fun c_4622 => ?_)
                      · skip
                        have gc_4622 := ti_le c_4622 rfl rfl
                        refine lv_iload hx hb dX7_worthAt_151 (lv_at hl 3 rfl) ?_
                        refine lv_istore (lv' := [(5, .int z_4603), (8, .int x_4615), (7, .int x_4613), (6, .int z_4602), (4, .int x_4597), (0, .ref oM), (1, .ref rQ), (2, .int p0), (3, .int p1)]) hx hb dX7_worthAt_153 hl (by decide) rfl (fun ls hl => ?_)
                        refine lv_goto (tgt := 173) hx hb dX7_worthAt_155 (by decide) ?_
                        obtain ⟨x_4623, ex_4623⟩ : ∃ z : Int32, z = z_4602 + Int32.ofInt 1 := ⟨_, rfl⟩
                        have vx_4623 : x_4623.toInt = z_4602.toInt + 1 := by have q := ti_add (y := 1) ex_4623 rfl kc_1 (by omega) (by omega); omega
                        refine lv_iinc (v := x_4623) (lv' := [(6, .int x_4623), (5, .int z_4603), (8, .int x_4615), (7, .int x_4613), (4, .int x_4597), (0, .ref oM), (1, .ref rQ), (2, .int p0), (3, .int p1)]) hx hb dX7_worthAt_173 hl (k := 3) rfl ex_4623.symm (by decide) rfl (fun ls hl => ?_)
                        refine lv_goto (tgt := 72) hx hb dX7_worthAt_176 (by decide) ?_
                        exact ih_n_4604 x_4623 z_4603 _ _ _  (by first | omega | decide | assumption) (fold_step (v := x_4615) (part := x_4613) hi1_n_4604 (by have q := cx_4613; rw [show 4 * p0.toNatClampNeg + z_4602.toNatClampNeg = 4 * p0.toNatClampNeg + z_4602.toNatClampNeg from by omega]; exact q) lx_4615 (by first | exact step_k0 (by omega) (by omega) | exact step_q0 (by omega) (by omega)) (by have q1 := ti_cl (x := x_4623) vx_4623 (by omega); have q2 := ti_cl (x := z_4602) rfl (by omega); omega)) (by omega) (hP.sub [0, 1, 2, 3] rfl) (hD.sub [0, 1, 2, 3] (by decide) rfl) hS (lv_sub hl [0, 1, 4, 5, 6, 7, 8] rfl)
                      · skip
                        have gc_4622 := ti_nle c_4622 rfl rfl
                        refine lv_iload hx hb dX7_worthAt_146 (lv_at hl 0 rfl) ?_
                        refine lv_goto (tgt := 153) hx hb dX7_worthAt_148 (by decide) ?_
                        refine lv_istore (lv' := [(5, .int x_4615), (8, .int x_4615), (7, .int x_4613), (6, .int z_4602), (4, .int x_4597), (0, .ref oM), (1, .ref rQ), (2, .int p0), (3, .int p1)]) hx hb dX7_worthAt_153 hl (by decide) rfl (fun ls hl => ?_)
                        refine lv_goto (tgt := 173) hx hb dX7_worthAt_155 (by decide) ?_
                        obtain ⟨x_4624, ex_4624⟩ : ∃ z : Int32, z = z_4602 + Int32.ofInt 1 := ⟨_, rfl⟩
                        have vx_4624 : x_4624.toInt = z_4602.toInt + 1 := by have q := ti_add (y := 1) ex_4624 rfl kc_1 (by omega) (by omega); omega
                        refine lv_iinc (v := x_4624) (lv' := [(6, .int x_4624), (5, .int x_4615), (8, .int x_4615), (7, .int x_4613), (4, .int x_4597), (0, .ref oM), (1, .ref rQ), (2, .int p0), (3, .int p1)]) hx hb dX7_worthAt_173 hl (k := 3) rfl ex_4624.symm (by decide) rfl (fun ls hl => ?_)
                        refine lv_goto (tgt := 72) hx hb dX7_worthAt_176 (by decide) ?_
                        exact ih_n_4604 x_4624 x_4615 _ _ _  (by first | omega | decide | assumption) (fold_step (v := x_4615) (part := x_4613) hi1_n_4604 (by have q := cx_4613; rw [show 4 * p0.toNatClampNeg + z_4602.toNatClampNeg = 4 * p0.toNatClampNeg + z_4602.toNatClampNeg from by omega]; exact q) lx_4615 (by first | exact step_k1 (by omega) (by omega) | exact step_q1 (by omega) (by omega)) (by have q1 := ti_cl (x := x_4624) vx_4624 (by omega); have q2 := ti_cl (x := z_4602) rfl (by omega); omega)) (by omega) (hP.sub [0, 1, 2, 3] rfl) (hD.sub [0, 1, 2, 3] (by decide) rfl) hS (lv_sub hl [0, 1, 4, 5, 6, 7, 8] rfl)
                  · skip
                    have gc_4616 := ti_eq c_4616 rfl kc_1
                    exfalso; omega
            exact key_n_4604 (((4 - (0 : Int32).toInt).toNat) + 1) 0 0 _ _ _  (by first | omega | decide | assumption | (have q0 := kc_0; have q1 := kc_1; omega) | (show _ = startV _; rw [show (fM_r (9 + p0.toNatClampNeg)).toInt = 1 from by omega]; rfl) | (show _ = startV _; rw [show (fM_r (9 + p0.toNatClampNeg)).toInt = 2 from by omega]; rfl) | (show _ = startV _; rw [show (fM_r (9 + p0.toNatClampNeg)).toInt = 3 from by omega]; rfl)) (by first | omega | decide | assumption | (have q0 := kc_0; have q1 := kc_1; omega) | (show _ = startV _; rw [show (fM_r (9 + p0.toNatClampNeg)).toInt = 1 from by omega]; rfl) | (show _ = startV _; rw [show (fM_r (9 + p0.toNatClampNeg)).toInt = 2 from by omega]; rfl) | (show _ = startV _; rw [show (fM_r (9 + p0.toNatClampNeg)).toInt = 3 from by omega]; rfl)) (by omega) hP hD hS hl
          · skip
            have gc_4601 := ti_eq c_4601 rfl kc_1
            refine lv_ldc hx hb hown (hts _ wd_654) dX7_worthAt_61 ?_
            refine lv_goto (tgt := 67) hx hb dX7_worthAt_63 (by decide) ?_
            refine lv_istore (lv' := [(5, .int (-100000000)), (4, .int x_4597), (0, .ref oM), (1, .ref rQ), (2, .int p0), (3, .int p1)]) hx hb dX7_worthAt_67 hl (by decide) rfl (fun ls hl => ?_)
            refine lv_iconst (v := 0) hx hb dX7_worthAt_69 (by decide) ?_
            refine lv_istore (lv' := [(6, .int 0), (5, .int (-100000000)), (4, .int x_4597), (0, .ref oM), (1, .ref rQ), (2, .int p0), (3, .int p1)]) hx hb dX7_worthAt_70 hl (by decide) rfl (fun ls hl => ?_)
            have hl := lv_sub hl (l' := [(6, .int 0), (5, .int (-100000000)), (4, .int x_4597), (0, .ref oM), (1, .ref rQ), (2, .int p0), (3, .int p1)]) [0, 1, 2, 3, 4, 5, 6] rfl
            have key_n_4627 : ∀ (n_4627 : Nat) (z_4625 : Int32) (z_4626 : Int32) (H : Heap) (locs : List Loc) (ls : Array Slot), (0 ≤ z_4625.toInt ∧ z_4625.toInt ≤ (fM_r (27 + p0.toNatClampNeg)).toInt) → (z_4626 = foldV (fM_r (9 + p0.toNatClampNeg)).toInt (startV (fM_r (9 + p0.toNatClampNeg)).toInt) (VF fM_r fM_told fQ iM_scale n9 p0.toNatClampNeg) (WF fM_r fM_told fQ p0.toNatClampNeg) z_4625.toNatClampNeg) → (4 - z_4625.toInt).toNat < n_4627 → va_P (dC, dI) vwCl [(oc7 oM iM_thrown rM_tape iM_taped iM_size iM_at iM_end iM_token iM_whole iM_nameSize iM_fault iM_place iM_trouble rM_letters iM_failed iM_hasCourt rM_r rM_fresh rM_told rM_read rM_st rM_undone rM_kept iM_undos iM_images rM_fresher iM_fresherSize iM_scale iM_night rM_heardRow rM_cutRow iM_breaths iM_cutMany iM_allBreaths rM_trial rM_words iM_fewestBreaths iM_orderMany iM_orderSum iM_leastOrder rM_often iM_setMany iM_someOf iM_allOf iM_allWeight iM_enoughWeight iM_worthSum iM_firstRest iM_leastDrawn), (arI rM_r kM_r 287 fM_r), (arI rM_told kM_told 90 fM_told), (arI rQ kQ 90 fQ)] H → va_D A [(oc7 oM iM_thrown rM_tape iM_taped iM_size iM_at iM_end iM_token iM_whole iM_nameSize iM_fault iM_place iM_trouble rM_letters iM_failed iM_hasCourt rM_r rM_fresh rM_told rM_read rM_st rM_undone rM_kept iM_undos iM_images rM_fresher iM_fresherSize iM_scale iM_night rM_heardRow rM_cutRow iM_breaths iM_cutMany iM_allBreaths rM_trial rM_words iM_fewestBreaths iM_orderMany iM_orderSum iM_leastOrder rM_often iM_setMany iM_someOf iM_allOf iM_allWeight iM_enoughWeight iM_worthSum iM_firstRest iM_leastDrawn), (arI rM_r kM_r 287 fM_r), (arI rM_told kM_told 90 fM_told), (arI rQ kQ 90 fQ)] → va_S A s.heap H locs → lv_has ls 9 [(6, .int z_4625), (5, .int z_4626), (4, .int x_4597), (0, .ref oM), (1, .ref rQ), (2, .int p0), (3, .int p1)] → W p l e (headSpec (Cond.code yX7_worthAt cX7_worthAt 9 (some .int) :: wG) ({ frames := 1 + (n9 + 1), cells := 0, slots := 0, locals := 10 + 28 * (n9 + 1) })).room s m ([.ref oM, .ref rQ, .int p0, .int p1] : List Value).toArray below meth c H locs 0 0 (MQ below (va_Qi (fun (r : Int32) (_ : Nat) => True ∧ (r = rval fM_r fM_told fQ iM_scale (n9 + 1) p0.toNatClampNeg)) (fun (_ : Nat) (t : State) => Bw dC dI A [(oc7 oM iM_thrown rM_tape iM_taped iM_size iM_at iM_end iM_token iM_whole iM_nameSize iM_fault iM_place iM_trouble rM_letters iM_failed iM_hasCourt rM_r rM_fresh rM_told rM_read rM_st rM_undone rM_kept iM_undos iM_images rM_fresher iM_fresherSize iM_scale iM_night rM_heardRow rM_cutRow iM_breaths iM_cutMany iM_allBreaths rM_trial rM_words iM_fewestBreaths iM_orderMany iM_orderSum iM_leastOrder rM_often iM_setMany iM_someOf iM_allOf iM_allWeight iM_enoughWeight iM_worthSum iM_firstRest iM_leastDrawn), (arI rM_r kM_r 287 fM_r), (arI rM_told kM_told 90 fM_told), (arI rQ kQ 90 fQ)] [(kM_r, .int), (kM_told, .int), (kQ, .int)] t) A) ([.ref oM, .ref rQ, .int p0, .int p1] : List Value).toArray s 0 0 A) (F0 m 72 ls []) := by
              intro n_4627
              induction n_4627 with
              | zero => intro z_4625 z_4626 H locs ls hi0_n_4627 hi1_n_4627 hm; exact absurd hm (by omega)
              | succ n_4627 ih_n_4627 =>
                intro z_4625 z_4626 H locs ls hi0_n_4627 hi1_n_4627 hm hP hD hS hl
                refine lv_iload hx hb dX7_worthAt_72 (lv_at hl 0 rfl) ?_
                refine lv_aload_n hx hb dX7_worthAt_74 rfl (lv_at hl 3 rfl) ?_
                refine va_get (D := (dC, dI)) (ci := 7) (v := .ref rM_r) (C := RX7) (T := TX7) (N := 48) hx hb hts inX7 hown hK hP 0 rfl rfl 15 (by decide) (hts _ wd_155) (fun _ h9 => h9) rfl dX7_worthAt_75 ?_
                refine lv_bipush (v := 27) hx hb dX7_worthAt_78 (by decide) ?_
                refine lv_iload_n hx hb dX7_worthAt_80 rfl (lv_at hl 5 rfl) ?_
                refine lv_iadd hx hb dX7_worthAt_81 ?_
                refine lv_topi (fun x_4628 ex_4628 => ?_)
                have vx_4628 : x_4628.toInt = p0.toInt + 27 := by have q := ti_add ex_4628 kc_27 rfl (by omega) (by omega); omega
                refine va_iald hx hb hK hP 1 0 rfl rfl (ti_in vx_4628 (by omega) (by omega)) dX7_worthAt_82 ?_
                refine lv_topi (fun x_4629 ex_4629 => ?_)
                have kx_4629 : (fM_r x_4628.toNatClampNeg).toInt = x_4629.toInt := by rw [ex_4629]
                have cx_4629 : (fM_r (27 + p0.toNatClampNeg)).toInt = x_4629.toInt := by rw [show 27 + p0.toNatClampNeg = x_4628.toNatClampNeg from by have q9 := ti_cl (x := x_4628) vx_4628 (by omega); have q_p0 := ti_cl (x := p0) rfl (by omega); omega]; exact kx_4629
                have sx_4629 := r_R.many x_4628.toNatClampNeg (by have q9 := ti_cl (x := x_4628) vx_4628 (by omega); omega) (by have q9 := ti_cl (x := x_4628) vx_4628 (by omega); omega)
                refine lv_icmp_ge (tgt := 179) hx hb dX7_worthAt_83 (by decide) (fun c_4630 => ?_) (fun c_4630 => ?_)
                · skip
                  have gc_4630 := ti_le c_4630 rfl rfl
                  refine lv_iload hx hb dX7_worthAt_179 (lv_at hl 2 rfl) ?_
                  refine lv_iconst (v := 3) hx hb dX7_worthAt_181 (by decide) ?_
                  refine lv_icmp_ne (tgt := 196) hx hb dX7_worthAt_182 (by decide) (fun c_4631 => ?_) (fun c_4631 => ?_)
                  · skip
                    have gc_4631 := ti_ne c_4631 rfl kc_3
                    refine lv_iload hx hb dX7_worthAt_196 (lv_at hl 1 rfl) ?_
                    exact W.iret hx hb hr (fun t ht hW => ⟨⟨_, 0, rfl, ⟨trivial, (rval_fold (by omega) (by omega) hi1_n_4627 (by have q1 := ti_cl (x := z_4625) rfl (by omega); omega))⟩, Bw.to (hP.sub [0, 1, 2, 3] rfl) (hD.sub [0, 1, 2, 3] (by decide) rfl) (hK.sub [0, 1, 2] rfl) ht hW⟩, hS.F ht⟩) hS.2.2 dX7_worthAt_198
                  · skip
                    have gc_4631 := ti_eq c_4631 rfl kc_3
                    exfalso; omega
                · skip
                  have gc_4630 := ti_nle c_4630 rfl rfl
                  refine lv_aload_n hx hb dX7_worthAt_86 rfl (lv_at hl 4 rfl) ?_
                  refine lv_iconst (v := 4) hx hb dX7_worthAt_87 (by decide) ?_
                  refine lv_iload_n hx hb dX7_worthAt_88 rfl (lv_at hl 5 rfl) ?_
                  refine lv_imul hx hb dX7_worthAt_89 ?_
                  refine lv_topi (fun x_4632 ex_4632 => ?_)
                  have vx_4632 : x_4632.toInt = 4 * p0.toInt := by have q := ti_mul ex_4632 kc_4 rfl (by omega) (by omega); omega
                  refine lv_iload hx hb dX7_worthAt_90 (lv_at hl 0 rfl) ?_
                  refine lv_iadd hx hb dX7_worthAt_92 ?_
                  refine lv_topi (fun x_4633 ex_4633 => ?_)
                  have vx_4633 : x_4633.toInt = 4 * p0.toInt + z_4625.toInt := by have q := ti_add ex_4633 vx_4632 rfl (by omega) (by omega); omega
                  refine va_iald hx hb hK hP 3 2 rfl rfl (ti_in vx_4633 (by omega) (by omega)) dX7_worthAt_93 ?_
                  refine lv_topi (fun x_4634 ex_4634 => ?_)
                  have kx_4634 : (fQ x_4633.toNatClampNeg).toInt = x_4634.toInt := by rw [ex_4634]
                  have cx_4634 : (fQ (4 * p0.toNatClampNeg + z_4625.toNatClampNeg)).toInt = x_4634.toInt := by rw [show 4 * p0.toNatClampNeg + z_4625.toNatClampNeg = x_4633.toNatClampNeg from by have q9 := ti_cl (x := x_4633) vx_4633 (by omega); have q_p0 := ti_cl (x := p0) rfl (by omega); have q_z_4625 := ti_cl (x := z_4625) rfl (by omega); omega]; exact kx_4634
                  have wx_4634 := r_Q.lt p0.toNatClampNeg (z_4625.toNatClampNeg) (by have q_1 := ti_cl (x := p0) rfl (by omega); have q_2 := ti_cl (x := z_4625) rfl (by omega); omega) (by have q_1 := ti_cl (x := p0) rfl (by omega); have q_2 := ti_cl (x := z_4625) rfl (by omega); omega)
                  have wx_4634 : 0 ≤ x_4634.toInt ∧ x_4634.toInt < p0.toInt := by have q_1 := ti_cl (x := p0) rfl (by omega); have q_2 := ti_cl (x := z_4625) rfl (by omega); have q_3 := cx_4634; rw [show 4 * p0.toNatClampNeg + (z_4625.toNatClampNeg) = 4 * p0.toNatClampNeg + z_4625.toNatClampNeg from by omega] at wx_4634; omega
                  refine lv_istore (lv' := [(7, .int x_4634), (6, .int z_4625), (5, .int z_4626), (4, .int x_4597), (0, .ref oM), (1, .ref rQ), (2, .int p0), (3, .int p1)]) hx hb dX7_worthAt_94 hl (by decide) rfl (fun ls hl => ?_)
                  refine lv_aload_n hx hb dX7_worthAt_96 rfl (lv_at hl 4 rfl) ?_
                  refine lv_aload_n hx hb dX7_worthAt_97 rfl (lv_at hl 5 rfl) ?_
                  refine lv_iload hx hb dX7_worthAt_98 (lv_at hl 0 rfl) ?_
                  refine lv_iload_n hx hb dX7_worthAt_100 rfl (lv_at hl 7 rfl) ?_
                  refine lv_iconst (v := 1) hx hb dX7_worthAt_101 (by decide) ?_
                  refine lv_iadd hx hb dX7_worthAt_102 ?_
                  refine lv_topi (fun x_4635 ex_4635 => ?_)
                  have vx_4635 : x_4635.toInt = p1.toInt + 1 := by have q := ti_add ex_4635 rfl kc_1 (by omega) (by omega); omega
                  have hFc := va_free (wc := [(oc7 oM iM_thrown rM_tape iM_taped iM_size iM_at iM_end iM_token iM_whole iM_nameSize iM_fault iM_place iM_trouble rM_letters iM_failed iM_hasCourt rM_r rM_fresh rM_told rM_read rM_st rM_undone rM_kept iM_undos iM_images rM_fresher iM_fresherSize iM_scale iM_night rM_heardRow rM_cutRow iM_breaths iM_cutMany iM_allBreaths rM_trial rM_words iM_fewestBreaths iM_orderMany iM_orderSum iM_leastOrder rM_often iM_setMany iM_someOf iM_allOf iM_allWeight iM_enoughWeight iM_worthSum iM_firstRest iM_leastDrawn), (arI rM_r kM_r 287 fM_r), (arI rM_told kM_told 90 fM_told), (arI rQ kQ 90 fQ)]) hD hS hA [0, 1, 2, 3] rfl
                  refine va_calli (va_runV (As := [.ref rQ, .int x_4634, .int x_4635]) (rest := []) ⟨hx, hb, hml, hown, hts⟩ (ih9 _ oM iM_thrown rM_tape iM_taped iM_size iM_at iM_end iM_token iM_whole iM_nameSize iM_fault iM_place iM_trouble rM_letters iM_failed iM_hasCourt rM_r fM_r kM_r rM_fresh rM_told fM_told kM_told rM_read rM_st rM_undone rM_kept iM_undos iM_images rM_fresher iM_fresherSize iM_scale iM_night rM_heardRow rM_cutRow iM_breaths iM_cutMany iM_allBreaths rM_trial rM_words iM_fewestBreaths iM_orderMany iM_orderSum iM_leastOrder rM_often iM_setMany iM_someOf iM_allOf iM_allWeight iM_enoughWeight iM_worthSum iM_firstRest iM_leastDrawn rQ fQ kQ x_4634 x_4635 (by first | omega | decide) (by first | omega | decide) (by first | omega | decide) (by first | omega | decide) (by first | omega | decide) (by first | omega | decide) (by first | omega | decide) (by first | omega | decide) (by first | omega | decide) (by first | omega | decide) (by assumption) (by assumption) (by assumption) (by assumption) (by first | omega | decide | assumption | (have q0 := kc_0; have q1 := kc_1; omega) | (intro h; exact absurd h (by decide))) (by first | omega | decide | assumption | (have q0 := kc_0; have q1 := kc_1; omega) | (intro h; exact absurd h (by decide))) (by first | omega | decide | assumption | (have q0 := kc_0; have q1 := kc_1; omega) | (intro h; exact absurd h (by decide))) (by first | omega | decide | assumption | (have q0 := kc_0; have q1 := kc_1; omega) | (intro h; exact absurd h (by decide)))) (cwV 3 hts (wd_V wd_649 wd_650 wd_651 wd_5 (wd_c wd_652)) rfl rfl rfl (by decide +kernel) ⟨(show (1 + n9) + 1 ≤ 1 + (n9 + 1) by omega), (show 8 + (9 + 11) + (10 + 28 * n9) ≤ 10 + 28 * (n9 + 1) by omega)⟩) ⟨Pw.fb, va_recv hK hP (ci := 7) (q0 := 0) rfl rfl, fun U hU hW => Pw.to (hP.sub [0, 1, 2, 3] rfl) (hD.sub [0, 1, 2, 3] (by decide) rfl) (hK.sub [0, 1, 2] rfl) hE hS hFc hU hW⟩ rfl rfl hl.1 rfl (lv_room (Nat.le_of_ble_eq_true rfl)) dX7_worthAt_103 ⟨Nat.le_of_ble_eq_true rfl, Nat.le_of_ble_eq_true rfl⟩) hS (fun q _ h => hFc q h) hFc (fun r u t H locs ht hvm hw hB hz1 hk1 hS => ?_)
                  obtain ⟨hP, hD, hK⟩ := Bw.go (ws' := [(oc7 oM iM_thrown rM_tape iM_taped iM_size iM_at iM_end iM_token iM_whole iM_nameSize iM_fault iM_place iM_trouble rM_letters iM_failed iM_hasCourt rM_r rM_fresh rM_told rM_read rM_st rM_undone rM_kept iM_undos iM_images rM_fresher iM_fresherSize iM_scale iM_night rM_heardRow rM_cutRow iM_breaths iM_cutMany iM_allBreaths rM_trial rM_words iM_fewestBreaths iM_orderMany iM_orderSum iM_leastOrder rM_often iM_setMany iM_someOf iM_allOf iM_allWeight iM_enoughWeight iM_worthSum iM_firstRest iM_leastDrawn), (arI rM_r kM_r 287 fM_r), (arI rM_told kM_told 90 fM_told), (arI rQ kQ 90 fQ)]) (tys' := [(kM_r, .int), (kM_told, .int), (kQ, .int)]) hB rfl ht hvm hP hD hK [0, 1, 2, 3] [] rfl (by decide) (by decide) [] hk1 hFc rfl rfl rfl
                  clear hz1 hk1 hvm ht hB
                  obtain ⟨x_4636, rfl⟩ : ∃ z, z = r := ⟨_, rfl⟩
                  have lx_4636 := hw.2
                  refine lv_istore (lv' := [(8, .int x_4636), (7, .int x_4634), (6, .int z_4625), (5, .int z_4626), (4, .int x_4597), (0, .ref oM), (1, .ref rQ), (2, .int p0), (3, .int p1)]) hx hb dX7_worthAt_106 hl (by decide) rfl (fun ls hl => ?_)
                  refine lv_iload hx hb dX7_worthAt_108 (lv_at hl 4 rfl) ?_
                  refine lv_iconst (v := 1) hx hb dX7_worthAt_110 (by decide) ?_
                  refine lv_icmp_ne (tgt := 133) hx hb dX7_worthAt_111 (by decide) (fun c_4637 => ?_) (fun c_4637 => ?_)
                  · skip
                    have gc_4637 := ti_ne c_4637 rfl kc_1
                    exfalso; omega
                  · skip
                    have gc_4637 := ti_eq c_4637 rfl kc_1
                    refine lv_iload hx hb dX7_worthAt_114 (lv_at hl 0 rfl) ?_
                    refine lv_iload hx hb dX7_worthAt_116 (lv_at hl 3 rfl) ?_
                    refine lv_icmp_le (tgt := 126) hx hb dX7_worthAt_118 (by decide) (fun c_4638 => ?_) (fun c_4638 => ?_)
                    · skip
                      have gc_4638 := ti_le c_4638 rfl rfl
                      refine lv_iload hx hb dX7_worthAt_126 (lv_at hl 3 rfl) ?_
                      refine lv_istore (lv' := [(5, .int z_4626), (8, .int x_4636), (7, .int x_4634), (6, .int z_4625), (4, .int x_4597), (0, .ref oM), (1, .ref rQ), (2, .int p0), (3, .int p1)]) hx hb dX7_worthAt_128 hl (by decide) rfl (fun ls hl => ?_)
                      refine lv_goto (tgt := 173) hx hb dX7_worthAt_130 (by decide) ?_
                      obtain ⟨x_4639, ex_4639⟩ : ∃ z : Int32, z = z_4625 + Int32.ofInt 1 := ⟨_, rfl⟩
                      have vx_4639 : x_4639.toInt = z_4625.toInt + 1 := by have q := ti_add (y := 1) ex_4639 rfl kc_1 (by omega) (by omega); omega
                      refine lv_iinc (v := x_4639) (lv' := [(6, .int x_4639), (5, .int z_4626), (8, .int x_4636), (7, .int x_4634), (4, .int x_4597), (0, .ref oM), (1, .ref rQ), (2, .int p0), (3, .int p1)]) hx hb dX7_worthAt_173 hl (k := 3) rfl ex_4639.symm (by decide) rfl (fun ls hl => ?_)
                      refine lv_goto (tgt := 72) hx hb dX7_worthAt_176 (by decide) ?_
                      exact ih_n_4627 x_4639 z_4626 _ _ _  (by first | omega | decide | assumption) (fold_step (v := x_4636) (part := x_4634) hi1_n_4627 (by have q := cx_4634; rw [show 4 * p0.toNatClampNeg + z_4625.toNatClampNeg = 4 * p0.toNatClampNeg + z_4625.toNatClampNeg from by omega]; exact q) lx_4636 (by first | exact step_k0 (by omega) (by omega) | exact step_q0 (by omega) (by omega)) (by have q1 := ti_cl (x := x_4639) vx_4639 (by omega); have q2 := ti_cl (x := z_4625) rfl (by omega); omega)) (by omega) (hP.sub [0, 1, 2, 3] rfl) (hD.sub [0, 1, 2, 3] (by decide) rfl) hS (lv_sub hl [0, 1, 4, 5, 6, 7, 8] rfl)
                    · skip
                      have gc_4638 := ti_nle c_4638 rfl rfl
                      refine lv_iload hx hb dX7_worthAt_121 (lv_at hl 0 rfl) ?_
                      refine lv_goto (tgt := 128) hx hb dX7_worthAt_123 (by decide) ?_
                      refine lv_istore (lv' := [(5, .int x_4636), (8, .int x_4636), (7, .int x_4634), (6, .int z_4625), (4, .int x_4597), (0, .ref oM), (1, .ref rQ), (2, .int p0), (3, .int p1)]) hx hb dX7_worthAt_128 hl (by decide) rfl (fun ls hl => ?_)
                      refine lv_goto (tgt := 173) hx hb dX7_worthAt_130 (by decide) ?_
                      obtain ⟨x_4640, ex_4640⟩ : ∃ z : Int32, z = z_4625 + Int32.ofInt 1 := ⟨_, rfl⟩
                      have vx_4640 : x_4640.toInt = z_4625.toInt + 1 := by have q := ti_add (y := 1) ex_4640 rfl kc_1 (by omega) (by omega); omega
                      refine lv_iinc (v := x_4640) (lv' := [(6, .int x_4640), (5, .int x_4636), (8, .int x_4636), (7, .int x_4634), (4, .int x_4597), (0, .ref oM), (1, .ref rQ), (2, .int p0), (3, .int p1)]) hx hb dX7_worthAt_173 hl (k := 3) rfl ex_4640.symm (by decide) rfl (fun ls hl => ?_)
                      refine lv_goto (tgt := 72) hx hb dX7_worthAt_176 (by decide) ?_
                      exact ih_n_4627 x_4640 x_4636 _ _ _  (by first | omega | decide | assumption) (fold_step (v := x_4636) (part := x_4634) hi1_n_4627 (by have q := cx_4634; rw [show 4 * p0.toNatClampNeg + z_4625.toNatClampNeg = 4 * p0.toNatClampNeg + z_4625.toNatClampNeg from by omega]; exact q) lx_4636 (by first | exact step_k1 (by omega) (by omega) | exact step_q1 (by omega) (by omega)) (by have q1 := ti_cl (x := x_4640) vx_4640 (by omega); have q2 := ti_cl (x := z_4625) rfl (by omega); omega)) (by omega) (hP.sub [0, 1, 2, 3] rfl) (hD.sub [0, 1, 2, 3] (by decide) rfl) hS (lv_sub hl [0, 1, 4, 5, 6, 7, 8] rfl)
            exact key_n_4627 (((4 - (0 : Int32).toInt).toNat) + 1) 0 (-100000000) _ _ _  (by first | omega | decide | assumption | (have q0 := kc_m100000000; have q1 := kc_0; have q2 := kc_1; omega) | (show _ = startV _; rw [show (fM_r (9 + p0.toNatClampNeg)).toInt = 1 from by omega]; rfl) | (show _ = startV _; rw [show (fM_r (9 + p0.toNatClampNeg)).toInt = 2 from by omega]; rfl) | (show _ = startV _; rw [show (fM_r (9 + p0.toNatClampNeg)).toInt = 3 from by omega]; rfl)) (by first | omega | decide | assumption | (have q0 := kc_m100000000; have q1 := kc_0; have q2 := kc_1; omega) | (show _ = startV _; rw [show (fM_r (9 + p0.toNatClampNeg)).toInt = 1 from by omega]; rfl) | (show _ = startV _; rw [show (fM_r (9 + p0.toNatClampNeg)).toInt = 2 from by omega]; rfl) | (show _ = startV _; rw [show (fM_r (9 + p0.toNatClampNeg)).toInt = 3 from by omega]; rfl)) (by omega) hP hD hS hl
        · skip
          have gc_4600 := ti_eq c_4600 rfl kc_2
          refine lv_ldc hx hb hown (hts _ wd_653) dX7_worthAt_50 ?_
          refine lv_goto (tgt := 67) hx hb dX7_worthAt_52 (by decide) ?_
          refine lv_istore (lv' := [(5, .int 100000000), (4, .int x_4597), (0, .ref oM), (1, .ref rQ), (2, .int p0), (3, .int p1)]) hx hb dX7_worthAt_67 hl (by decide) rfl (fun ls hl => ?_)
          refine lv_iconst (v := 0) hx hb dX7_worthAt_69 (by decide) ?_
          refine lv_istore (lv' := [(6, .int 0), (5, .int 100000000), (4, .int x_4597), (0, .ref oM), (1, .ref rQ), (2, .int p0), (3, .int p1)]) hx hb dX7_worthAt_70 hl (by decide) rfl (fun ls hl => ?_)
          have hl := lv_sub hl (l' := [(6, .int 0), (5, .int 100000000), (4, .int x_4597), (0, .ref oM), (1, .ref rQ), (2, .int p0), (3, .int p1)]) [0, 1, 2, 3, 4, 5, 6] rfl
          have key_n_4643 : ∀ (n_4643 : Nat) (z_4641 : Int32) (z_4642 : Int32) (H : Heap) (locs : List Loc) (ls : Array Slot), (0 ≤ z_4641.toInt ∧ z_4641.toInt ≤ (fM_r (27 + p0.toNatClampNeg)).toInt) → (z_4642 = foldV (fM_r (9 + p0.toNatClampNeg)).toInt (startV (fM_r (9 + p0.toNatClampNeg)).toInt) (VF fM_r fM_told fQ iM_scale n9 p0.toNatClampNeg) (WF fM_r fM_told fQ p0.toNatClampNeg) z_4641.toNatClampNeg) → (4 - z_4641.toInt).toNat < n_4643 → va_P (dC, dI) vwCl [(oc7 oM iM_thrown rM_tape iM_taped iM_size iM_at iM_end iM_token iM_whole iM_nameSize iM_fault iM_place iM_trouble rM_letters iM_failed iM_hasCourt rM_r rM_fresh rM_told rM_read rM_st rM_undone rM_kept iM_undos iM_images rM_fresher iM_fresherSize iM_scale iM_night rM_heardRow rM_cutRow iM_breaths iM_cutMany iM_allBreaths rM_trial rM_words iM_fewestBreaths iM_orderMany iM_orderSum iM_leastOrder rM_often iM_setMany iM_someOf iM_allOf iM_allWeight iM_enoughWeight iM_worthSum iM_firstRest iM_leastDrawn), (arI rM_r kM_r 287 fM_r), (arI rM_told kM_told 90 fM_told), (arI rQ kQ 90 fQ)] H → va_D A [(oc7 oM iM_thrown rM_tape iM_taped iM_size iM_at iM_end iM_token iM_whole iM_nameSize iM_fault iM_place iM_trouble rM_letters iM_failed iM_hasCourt rM_r rM_fresh rM_told rM_read rM_st rM_undone rM_kept iM_undos iM_images rM_fresher iM_fresherSize iM_scale iM_night rM_heardRow rM_cutRow iM_breaths iM_cutMany iM_allBreaths rM_trial rM_words iM_fewestBreaths iM_orderMany iM_orderSum iM_leastOrder rM_often iM_setMany iM_someOf iM_allOf iM_allWeight iM_enoughWeight iM_worthSum iM_firstRest iM_leastDrawn), (arI rM_r kM_r 287 fM_r), (arI rM_told kM_told 90 fM_told), (arI rQ kQ 90 fQ)] → va_S A s.heap H locs → lv_has ls 9 [(6, .int z_4641), (5, .int z_4642), (4, .int x_4597), (0, .ref oM), (1, .ref rQ), (2, .int p0), (3, .int p1)] → W p l e (headSpec (Cond.code yX7_worthAt cX7_worthAt 9 (some .int) :: wG) ({ frames := 1 + (n9 + 1), cells := 0, slots := 0, locals := 10 + 28 * (n9 + 1) })).room s m ([.ref oM, .ref rQ, .int p0, .int p1] : List Value).toArray below meth c H locs 0 0 (MQ below (va_Qi (fun (r : Int32) (_ : Nat) => True ∧ (r = rval fM_r fM_told fQ iM_scale (n9 + 1) p0.toNatClampNeg)) (fun (_ : Nat) (t : State) => Bw dC dI A [(oc7 oM iM_thrown rM_tape iM_taped iM_size iM_at iM_end iM_token iM_whole iM_nameSize iM_fault iM_place iM_trouble rM_letters iM_failed iM_hasCourt rM_r rM_fresh rM_told rM_read rM_st rM_undone rM_kept iM_undos iM_images rM_fresher iM_fresherSize iM_scale iM_night rM_heardRow rM_cutRow iM_breaths iM_cutMany iM_allBreaths rM_trial rM_words iM_fewestBreaths iM_orderMany iM_orderSum iM_leastOrder rM_often iM_setMany iM_someOf iM_allOf iM_allWeight iM_enoughWeight iM_worthSum iM_firstRest iM_leastDrawn), (arI rM_r kM_r 287 fM_r), (arI rM_told kM_told 90 fM_told), (arI rQ kQ 90 fQ)] [(kM_r, .int), (kM_told, .int), (kQ, .int)] t) A) ([.ref oM, .ref rQ, .int p0, .int p1] : List Value).toArray s 0 0 A) (F0 m 72 ls []) := by
            intro n_4643
            induction n_4643 with
            | zero => intro z_4641 z_4642 H locs ls hi0_n_4643 hi1_n_4643 hm; exact absurd hm (by omega)
            | succ n_4643 ih_n_4643 =>
              intro z_4641 z_4642 H locs ls hi0_n_4643 hi1_n_4643 hm hP hD hS hl
              refine lv_iload hx hb dX7_worthAt_72 (lv_at hl 0 rfl) ?_
              refine lv_aload_n hx hb dX7_worthAt_74 rfl (lv_at hl 3 rfl) ?_
              refine va_get (D := (dC, dI)) (ci := 7) (v := .ref rM_r) (C := RX7) (T := TX7) (N := 48) hx hb hts inX7 hown hK hP 0 rfl rfl 15 (by decide) (hts _ wd_155) (fun _ h9 => h9) rfl dX7_worthAt_75 ?_
              refine lv_bipush (v := 27) hx hb dX7_worthAt_78 (by decide) ?_
              refine lv_iload_n hx hb dX7_worthAt_80 rfl (lv_at hl 5 rfl) ?_
              refine lv_iadd hx hb dX7_worthAt_81 ?_
              refine lv_topi (fun x_4644 ex_4644 => ?_)
              have vx_4644 : x_4644.toInt = p0.toInt + 27 := by have q := ti_add ex_4644 kc_27 rfl (by omega) (by omega); omega
              refine va_iald hx hb hK hP 1 0 rfl rfl (ti_in vx_4644 (by omega) (by omega)) dX7_worthAt_82 ?_
              refine lv_topi (fun x_4645 ex_4645 => ?_)
              have kx_4645 : (fM_r x_4644.toNatClampNeg).toInt = x_4645.toInt := by rw [ex_4645]
              have cx_4645 : (fM_r (27 + p0.toNatClampNeg)).toInt = x_4645.toInt := by rw [show 27 + p0.toNatClampNeg = x_4644.toNatClampNeg from by have q9 := ti_cl (x := x_4644) vx_4644 (by omega); have q_p0 := ti_cl (x := p0) rfl (by omega); omega]; exact kx_4645
              have sx_4645 := r_R.many x_4644.toNatClampNeg (by have q9 := ti_cl (x := x_4644) vx_4644 (by omega); omega) (by have q9 := ti_cl (x := x_4644) vx_4644 (by omega); omega)
              refine lv_icmp_ge (tgt := 179) hx hb dX7_worthAt_83 (by decide) (fun c_4646 => ?_) (fun c_4646 => ?_)
              · skip
                have gc_4646 := ti_le c_4646 rfl rfl
                refine lv_iload hx hb dX7_worthAt_179 (lv_at hl 2 rfl) ?_
                refine lv_iconst (v := 3) hx hb dX7_worthAt_181 (by decide) ?_
                refine lv_icmp_ne (tgt := 196) hx hb dX7_worthAt_182 (by decide) (fun c_4647 => ?_) (fun c_4647 => ?_)
                · skip
                  have gc_4647 := ti_ne c_4647 rfl kc_3
                  refine lv_iload hx hb dX7_worthAt_196 (lv_at hl 1 rfl) ?_
                  exact W.iret hx hb hr (fun t ht hW => ⟨⟨_, 0, rfl, ⟨trivial, (rval_fold (by omega) (by omega) hi1_n_4643 (by have q1 := ti_cl (x := z_4641) rfl (by omega); omega))⟩, Bw.to (hP.sub [0, 1, 2, 3] rfl) (hD.sub [0, 1, 2, 3] (by decide) rfl) (hK.sub [0, 1, 2] rfl) ht hW⟩, hS.F ht⟩) hS.2.2 dX7_worthAt_198
                · skip
                  have gc_4647 := ti_eq c_4647 rfl kc_3
                  exfalso; omega
              · skip
                have gc_4646 := ti_nle c_4646 rfl rfl
                refine lv_aload_n hx hb dX7_worthAt_86 rfl (lv_at hl 4 rfl) ?_
                refine lv_iconst (v := 4) hx hb dX7_worthAt_87 (by decide) ?_
                refine lv_iload_n hx hb dX7_worthAt_88 rfl (lv_at hl 5 rfl) ?_
                refine lv_imul hx hb dX7_worthAt_89 ?_
                refine lv_topi (fun x_4648 ex_4648 => ?_)
                have vx_4648 : x_4648.toInt = 4 * p0.toInt := by have q := ti_mul ex_4648 kc_4 rfl (by omega) (by omega); omega
                refine lv_iload hx hb dX7_worthAt_90 (lv_at hl 0 rfl) ?_
                refine lv_iadd hx hb dX7_worthAt_92 ?_
                refine lv_topi (fun x_4649 ex_4649 => ?_)
                have vx_4649 : x_4649.toInt = 4 * p0.toInt + z_4641.toInt := by have q := ti_add ex_4649 vx_4648 rfl (by omega) (by omega); omega
                refine va_iald hx hb hK hP 3 2 rfl rfl (ti_in vx_4649 (by omega) (by omega)) dX7_worthAt_93 ?_
                refine lv_topi (fun x_4650 ex_4650 => ?_)
                have kx_4650 : (fQ x_4649.toNatClampNeg).toInt = x_4650.toInt := by rw [ex_4650]
                have cx_4650 : (fQ (4 * p0.toNatClampNeg + z_4641.toNatClampNeg)).toInt = x_4650.toInt := by rw [show 4 * p0.toNatClampNeg + z_4641.toNatClampNeg = x_4649.toNatClampNeg from by have q9 := ti_cl (x := x_4649) vx_4649 (by omega); have q_p0 := ti_cl (x := p0) rfl (by omega); have q_z_4641 := ti_cl (x := z_4641) rfl (by omega); omega]; exact kx_4650
                have wx_4650 := r_Q.lt p0.toNatClampNeg (z_4641.toNatClampNeg) (by have q_1 := ti_cl (x := p0) rfl (by omega); have q_2 := ti_cl (x := z_4641) rfl (by omega); omega) (by have q_1 := ti_cl (x := p0) rfl (by omega); have q_2 := ti_cl (x := z_4641) rfl (by omega); omega)
                have wx_4650 : 0 ≤ x_4650.toInt ∧ x_4650.toInt < p0.toInt := by have q_1 := ti_cl (x := p0) rfl (by omega); have q_2 := ti_cl (x := z_4641) rfl (by omega); have q_3 := cx_4650; rw [show 4 * p0.toNatClampNeg + (z_4641.toNatClampNeg) = 4 * p0.toNatClampNeg + z_4641.toNatClampNeg from by omega] at wx_4650; omega
                refine lv_istore (lv' := [(7, .int x_4650), (6, .int z_4641), (5, .int z_4642), (4, .int x_4597), (0, .ref oM), (1, .ref rQ), (2, .int p0), (3, .int p1)]) hx hb dX7_worthAt_94 hl (by decide) rfl (fun ls hl => ?_)
                refine lv_aload_n hx hb dX7_worthAt_96 rfl (lv_at hl 4 rfl) ?_
                refine lv_aload_n hx hb dX7_worthAt_97 rfl (lv_at hl 5 rfl) ?_
                refine lv_iload hx hb dX7_worthAt_98 (lv_at hl 0 rfl) ?_
                refine lv_iload_n hx hb dX7_worthAt_100 rfl (lv_at hl 7 rfl) ?_
                refine lv_iconst (v := 1) hx hb dX7_worthAt_101 (by decide) ?_
                refine lv_iadd hx hb dX7_worthAt_102 ?_
                refine lv_topi (fun x_4651 ex_4651 => ?_)
                have vx_4651 : x_4651.toInt = p1.toInt + 1 := by have q := ti_add ex_4651 rfl kc_1 (by omega) (by omega); omega
                have hFc := va_free (wc := [(oc7 oM iM_thrown rM_tape iM_taped iM_size iM_at iM_end iM_token iM_whole iM_nameSize iM_fault iM_place iM_trouble rM_letters iM_failed iM_hasCourt rM_r rM_fresh rM_told rM_read rM_st rM_undone rM_kept iM_undos iM_images rM_fresher iM_fresherSize iM_scale iM_night rM_heardRow rM_cutRow iM_breaths iM_cutMany iM_allBreaths rM_trial rM_words iM_fewestBreaths iM_orderMany iM_orderSum iM_leastOrder rM_often iM_setMany iM_someOf iM_allOf iM_allWeight iM_enoughWeight iM_worthSum iM_firstRest iM_leastDrawn), (arI rM_r kM_r 287 fM_r), (arI rM_told kM_told 90 fM_told), (arI rQ kQ 90 fQ)]) hD hS hA [0, 1, 2, 3] rfl
                refine va_calli (va_runV (As := [.ref rQ, .int x_4650, .int x_4651]) (rest := []) ⟨hx, hb, hml, hown, hts⟩ (ih9 _ oM iM_thrown rM_tape iM_taped iM_size iM_at iM_end iM_token iM_whole iM_nameSize iM_fault iM_place iM_trouble rM_letters iM_failed iM_hasCourt rM_r fM_r kM_r rM_fresh rM_told fM_told kM_told rM_read rM_st rM_undone rM_kept iM_undos iM_images rM_fresher iM_fresherSize iM_scale iM_night rM_heardRow rM_cutRow iM_breaths iM_cutMany iM_allBreaths rM_trial rM_words iM_fewestBreaths iM_orderMany iM_orderSum iM_leastOrder rM_often iM_setMany iM_someOf iM_allOf iM_allWeight iM_enoughWeight iM_worthSum iM_firstRest iM_leastDrawn rQ fQ kQ x_4650 x_4651 (by first | omega | decide) (by first | omega | decide) (by first | omega | decide) (by first | omega | decide) (by first | omega | decide) (by first | omega | decide) (by first | omega | decide) (by first | omega | decide) (by first | omega | decide) (by first | omega | decide) (by assumption) (by assumption) (by assumption) (by assumption) (by first | omega | decide | assumption | (have q0 := kc_0; have q1 := kc_1; omega) | (intro h; exact absurd h (by decide))) (by first | omega | decide | assumption | (have q0 := kc_0; have q1 := kc_1; omega) | (intro h; exact absurd h (by decide))) (by first | omega | decide | assumption | (have q0 := kc_0; have q1 := kc_1; omega) | (intro h; exact absurd h (by decide))) (by first | omega | decide | assumption | (have q0 := kc_0; have q1 := kc_1; omega) | (intro h; exact absurd h (by decide)))) (cwV 3 hts (wd_V wd_649 wd_650 wd_651 wd_5 (wd_c wd_652)) rfl rfl rfl (by decide +kernel) ⟨(show (1 + n9) + 1 ≤ 1 + (n9 + 1) by omega), (show 8 + (9 + 11) + (10 + 28 * n9) ≤ 10 + 28 * (n9 + 1) by omega)⟩) ⟨Pw.fb, va_recv hK hP (ci := 7) (q0 := 0) rfl rfl, fun U hU hW => Pw.to (hP.sub [0, 1, 2, 3] rfl) (hD.sub [0, 1, 2, 3] (by decide) rfl) (hK.sub [0, 1, 2] rfl) hE hS hFc hU hW⟩ rfl rfl hl.1 rfl (lv_room (Nat.le_of_ble_eq_true rfl)) dX7_worthAt_103 ⟨Nat.le_of_ble_eq_true rfl, Nat.le_of_ble_eq_true rfl⟩) hS (fun q _ h => hFc q h) hFc (fun r u t H locs ht hvm hw hB hz1 hk1 hS => ?_)
                obtain ⟨hP, hD, hK⟩ := Bw.go (ws' := [(oc7 oM iM_thrown rM_tape iM_taped iM_size iM_at iM_end iM_token iM_whole iM_nameSize iM_fault iM_place iM_trouble rM_letters iM_failed iM_hasCourt rM_r rM_fresh rM_told rM_read rM_st rM_undone rM_kept iM_undos iM_images rM_fresher iM_fresherSize iM_scale iM_night rM_heardRow rM_cutRow iM_breaths iM_cutMany iM_allBreaths rM_trial rM_words iM_fewestBreaths iM_orderMany iM_orderSum iM_leastOrder rM_often iM_setMany iM_someOf iM_allOf iM_allWeight iM_enoughWeight iM_worthSum iM_firstRest iM_leastDrawn), (arI rM_r kM_r 287 fM_r), (arI rM_told kM_told 90 fM_told), (arI rQ kQ 90 fQ)]) (tys' := [(kM_r, .int), (kM_told, .int), (kQ, .int)]) hB rfl ht hvm hP hD hK [0, 1, 2, 3] [] rfl (by decide) (by decide) [] hk1 hFc rfl rfl rfl
                clear hz1 hk1 hvm ht hB
                obtain ⟨x_4652, rfl⟩ : ∃ z, z = r := ⟨_, rfl⟩
                have lx_4652 := hw.2
                refine lv_istore (lv' := [(8, .int x_4652), (7, .int x_4650), (6, .int z_4641), (5, .int z_4642), (4, .int x_4597), (0, .ref oM), (1, .ref rQ), (2, .int p0), (3, .int p1)]) hx hb dX7_worthAt_106 hl (by decide) rfl (fun ls hl => ?_)
                refine lv_iload hx hb dX7_worthAt_108 (lv_at hl 4 rfl) ?_
                refine lv_iconst (v := 1) hx hb dX7_worthAt_110 (by decide) ?_
                refine lv_icmp_ne (tgt := 133) hx hb dX7_worthAt_111 (by decide) (fun c_4653 => ?_) (fun c_4653 => ?_)
                · skip
                  have gc_4653 := ti_ne c_4653 rfl kc_1
                  refine lv_iload hx hb dX7_worthAt_133 (lv_at hl 4 rfl) ?_
                  refine lv_iconst (v := 2) hx hb dX7_worthAt_135 (by decide) ?_
                  refine lv_icmp_ne (tgt := 158) hx hb dX7_worthAt_136 (by decide) (fun c_4654 => ?_) (fun c_4654 => ?_)
                  · skip
                    have gc_4654 := ti_ne c_4654 rfl kc_2
                    exfalso; omega
                  · skip
                    have gc_4654 := ti_eq c_4654 rfl kc_2
                    refine lv_iload hx hb dX7_worthAt_139 (lv_at hl 0 rfl) ?_
                    refine lv_iload hx hb dX7_worthAt_141 (lv_at hl 3 rfl) ?_
                    refine lv_icmp_ge (tgt := 151) hx hb dX7_worthAt_143 (by decide) (fun c_4655 => ?_) (fun c_4655 => ?_)
                    · skip
                      have gc_4655 := ti_le c_4655 rfl rfl
                      refine lv_iload hx hb dX7_worthAt_151 (lv_at hl 3 rfl) ?_
                      refine lv_istore (lv' := [(5, .int z_4642), (8, .int x_4652), (7, .int x_4650), (6, .int z_4641), (4, .int x_4597), (0, .ref oM), (1, .ref rQ), (2, .int p0), (3, .int p1)]) hx hb dX7_worthAt_153 hl (by decide) rfl (fun ls hl => ?_)
                      refine lv_goto (tgt := 173) hx hb dX7_worthAt_155 (by decide) ?_
                      obtain ⟨x_4656, ex_4656⟩ : ∃ z : Int32, z = z_4641 + Int32.ofInt 1 := ⟨_, rfl⟩
                      have vx_4656 : x_4656.toInt = z_4641.toInt + 1 := by have q := ti_add (y := 1) ex_4656 rfl kc_1 (by omega) (by omega); omega
                      refine lv_iinc (v := x_4656) (lv' := [(6, .int x_4656), (5, .int z_4642), (8, .int x_4652), (7, .int x_4650), (4, .int x_4597), (0, .ref oM), (1, .ref rQ), (2, .int p0), (3, .int p1)]) hx hb dX7_worthAt_173 hl (k := 3) rfl ex_4656.symm (by decide) rfl (fun ls hl => ?_)
                      refine lv_goto (tgt := 72) hx hb dX7_worthAt_176 (by decide) ?_
                      exact ih_n_4643 x_4656 z_4642 _ _ _  (by first | omega | decide | assumption) (fold_step (v := x_4652) (part := x_4650) hi1_n_4643 (by have q := cx_4650; rw [show 4 * p0.toNatClampNeg + z_4641.toNatClampNeg = 4 * p0.toNatClampNeg + z_4641.toNatClampNeg from by omega]; exact q) lx_4652 (by first | exact step_k0 (by omega) (by omega) | exact step_q0 (by omega) (by omega)) (by have q1 := ti_cl (x := x_4656) vx_4656 (by omega); have q2 := ti_cl (x := z_4641) rfl (by omega); omega)) (by omega) (hP.sub [0, 1, 2, 3] rfl) (hD.sub [0, 1, 2, 3] (by decide) rfl) hS (lv_sub hl [0, 1, 4, 5, 6, 7, 8] rfl)
                    · skip
                      have gc_4655 := ti_nle c_4655 rfl rfl
                      refine lv_iload hx hb dX7_worthAt_146 (lv_at hl 0 rfl) ?_
                      refine lv_goto (tgt := 153) hx hb dX7_worthAt_148 (by decide) ?_
                      refine lv_istore (lv' := [(5, .int x_4652), (8, .int x_4652), (7, .int x_4650), (6, .int z_4641), (4, .int x_4597), (0, .ref oM), (1, .ref rQ), (2, .int p0), (3, .int p1)]) hx hb dX7_worthAt_153 hl (by decide) rfl (fun ls hl => ?_)
                      refine lv_goto (tgt := 173) hx hb dX7_worthAt_155 (by decide) ?_
                      obtain ⟨x_4657, ex_4657⟩ : ∃ z : Int32, z = z_4641 + Int32.ofInt 1 := ⟨_, rfl⟩
                      have vx_4657 : x_4657.toInt = z_4641.toInt + 1 := by have q := ti_add (y := 1) ex_4657 rfl kc_1 (by omega) (by omega); omega
                      refine lv_iinc (v := x_4657) (lv' := [(6, .int x_4657), (5, .int x_4652), (8, .int x_4652), (7, .int x_4650), (4, .int x_4597), (0, .ref oM), (1, .ref rQ), (2, .int p0), (3, .int p1)]) hx hb dX7_worthAt_173 hl (k := 3) rfl ex_4657.symm (by decide) rfl (fun ls hl => ?_)
                      refine lv_goto (tgt := 72) hx hb dX7_worthAt_176 (by decide) ?_
                      exact ih_n_4643 x_4657 x_4652 _ _ _  (by first | omega | decide | assumption) (fold_step (v := x_4652) (part := x_4650) hi1_n_4643 (by have q := cx_4650; rw [show 4 * p0.toNatClampNeg + z_4641.toNatClampNeg = 4 * p0.toNatClampNeg + z_4641.toNatClampNeg from by omega]; exact q) lx_4652 (by first | exact step_k1 (by omega) (by omega) | exact step_q1 (by omega) (by omega)) (by have q1 := ti_cl (x := x_4657) vx_4657 (by omega); have q2 := ti_cl (x := z_4641) rfl (by omega); omega)) (by omega) (hP.sub [0, 1, 2, 3] rfl) (hD.sub [0, 1, 2, 3] (by decide) rfl) hS (lv_sub hl [0, 1, 4, 5, 6, 7, 8] rfl)
                · skip
                  have gc_4653 := ti_eq c_4653 rfl kc_1
                  exfalso; omega
          exact key_n_4643 (((4 - (0 : Int32).toInt).toNat) + 1) 0 100000000 _ _ _  (by first | omega | decide | assumption | (have q0 := kc_0; have q1 := kc_1; have q2 := kc_100000000; omega) | (show _ = startV _; rw [show (fM_r (9 + p0.toNatClampNeg)).toInt = 1 from by omega]; rfl) | (show _ = startV _; rw [show (fM_r (9 + p0.toNatClampNeg)).toInt = 2 from by omega]; rfl) | (show _ = startV _; rw [show (fM_r (9 + p0.toNatClampNeg)).toInt = 3 from by omega]; rfl)) (by first | omega | decide | assumption | (have q0 := kc_0; have q1 := kc_1; have q2 := kc_100000000; omega) | (show _ = startV _; rw [show (fM_r (9 + p0.toNatClampNeg)).toInt = 1 from by omega]; rfl) | (show _ = startV _; rw [show (fM_r (9 + p0.toNatClampNeg)).toInt = 2 from by omega]; rfl) | (show _ = startV _; rw [show (fM_r (9 + p0.toNatClampNeg)).toInt = 3 from by omega]; rfl)) (by omega) hP hD hS hl
      · skip
        have gc_4599 := ti_eq c_4599 rfl rfl
        exfalso; omega
    · skip
      have gc_4598 := ti_eq c_4598 rfl kc_0
      refine lv_aload_n hx hb dX7_worthAt_16 rfl (lv_at hl 2 rfl) ?_
      refine lv_bipush (v := 72) hx hb dX7_worthAt_17 (by decide) ?_
      refine lv_iload_n hx hb dX7_worthAt_19 rfl (lv_at hl 3 rfl) ?_
      refine lv_iadd hx hb dX7_worthAt_20 ?_
      refine lv_topi (fun x_4658 ex_4658 => ?_)
      have vx_4658 : x_4658.toInt = p0.toInt + 72 := by have q := ti_add ex_4658 kc_72 rfl (by omega) (by omega); omega
      refine va_iald hx hb hK hP 3 2 rfl rfl (ti_in vx_4658 (by omega) (by omega)) dX7_worthAt_21 ?_
      refine lv_topi (fun x_4659 ex_4659 => ?_)
      have kx_4659 : (fQ x_4658.toNatClampNeg).toInt = x_4659.toInt := by rw [ex_4659]
      have cx_4659 : (fQ (72 + p0.toNatClampNeg)).toInt = x_4659.toInt := by rw [show 72 + p0.toNatClampNeg = x_4658.toNatClampNeg from by have q9 := ti_cl (x := x_4658) vx_4658 (by omega); have q_p0 := ti_cl (x := p0) rfl (by omega); omega]; exact kx_4659
      refine lv_aload_n hx hb dX7_worthAt_22 rfl (lv_at hl 1 rfl) ?_
      refine va_get (D := (dC, dI)) (ci := 7) (v := .int iM_scale) (C := RX7) (T := TX7) (N := 48) hx hb hts inX7 hown hK hP 0 rfl rfl 26 (by decide) (hts _ wd_163) (fun _ h9 => h9) rfl dX7_worthAt_23 ?_
      refine lv_imul hx hb dX7_worthAt_26 ?_
      refine lv_topi (fun x_4660 ex_4660 => ?_)
      exact W.iret hx hb hr (fun t ht hW => ⟨⟨_, 0, rfl, ⟨trivial, (rval_word (z := x_4659) (by omega) (by have q := cx_4659; rw [show 72 + p0.toNatClampNeg = 72 + p0.toNatClampNeg from by omega]; exact q) ex_4660)⟩, Bw.to (hP.sub [0, 1, 2, 3] rfl) (hD.sub [0, 1, 2, 3] (by decide) rfl) (hK.sub [0, 1, 2] rfl) ht hW⟩, hS.F ht⟩) hS.2.2 dX7_worthAt_27
theorem tX7_worthAt_x (l : Launch) (dC : Nat → ClassId) (dI : Nat → Nat → Nat) (sz : Nat) (oM : Nat) (iM_thrown : Int32) (rM_tape : Nat) (iM_taped : Int32) (iM_size : Int32) (iM_at : Int32) (iM_end : Int32) (iM_token : Int32) (iM_whole : Int32) (iM_nameSize : Int32) (iM_fault : Int32) (iM_place : Int32) (iM_trouble : Int32) (rM_letters : Nat) (iM_failed : Int32) (iM_hasCourt : Int32) (rM_r : Nat) (fM_r : Nat → Int32) (kM_r : ClassId) (rM_fresh : Nat) (rM_told : Nat) (fM_told : Nat → Int32) (kM_told : ClassId) (rM_read : Nat) (rM_st : Nat) (rM_undone : Nat) (rM_kept : Nat) (iM_undos : Int32) (iM_images : Int32) (rM_fresher : Nat) (iM_fresherSize : Int32) (iM_scale : Int32) (iM_night : Int32) (rM_heardRow : Nat) (rM_cutRow : Nat) (iM_breaths : Int32) (iM_cutMany : Int32) (iM_allBreaths : Int32) (rM_trial : Nat) (rM_words : Nat) (iM_fewestBreaths : Int32) (iM_orderMany : Int32) (iM_orderSum : Int32) (iM_leastOrder : Int32) (rM_often : Nat) (iM_setMany : Int32) (iM_someOf : Int32) (iM_allOf : Int32) (iM_allWeight : Int64) (iM_enoughWeight : Int64) (iM_worthSum : Int64) (iM_firstRest : Int32) (iM_leastDrawn : Int32) (rQ : Nat) (fQ : Nat → Int32) (kQ : ClassId) (p0 : Int32) (p1 : Int32) (b_iM_taped : 0 ≤ iM_taped.toInt ∧ iM_taped.toInt ≤ 900) (b_iM_size : 0 ≤ iM_size.toInt ∧ iM_size.toInt ≤ 900) (b_iM_end : 0 ≤ iM_end.toInt ∧ iM_end.toInt ≤ 900) (b_iM_failed : 0 ≤ iM_failed.toInt ∧ iM_failed.toInt ≤ 1) (b_iM_hasCourt : 0 ≤ iM_hasCourt.toInt ∧ iM_hasCourt.toInt ≤ 1) (b_iM_undos : 0 ≤ iM_undos.toInt ∧ iM_undos.toInt ≤ 16) (b_iM_images : 0 ≤ iM_images.toInt ∧ iM_images.toInt ≤ 3) (b_iM_scale : 1 ≤ iM_scale.toInt ∧ iM_scale.toInt ≤ 1296) (b_iM_breaths : 0 ≤ iM_breaths.toInt ∧ iM_breaths.toInt ≤ 399) (b_iM_cutMany : 0 ≤ iM_cutMany.toInt ∧ iM_cutMany.toInt ≤ 399) (r_R : ROk fM_r) (r_C : iM_hasCourt.toInt ≤ 0 ∨ (1 ≤ (fM_r 1).toInt ∧ 0 ≤ (fM_r 6).toInt ∧ (fM_r 6).toInt < (fM_r 1).toInt)) (r_told : RowOk fM_r fM_told) (r_Q : RowOk fM_r fQ) (hk0 : 0 ≤ p0.toInt ∧ p0.toInt < (fM_r 1).toInt) (hnt : iM_night.toInt = -1) (hdp : 0 ≤ p1.toInt ∧ p1.toInt + p0.toInt ≤ 100) : Met l yX7_worthAt (Cond.code yX7_worthAt cX7_worthAt 9 (some .int) :: wG) ({ frames := 19, cells := 0, slots := 0, locals := 514 }) (va_Pc [.ref oM, .ref rQ, .int p0, .int p1] (Pw dC dI sz [(oc7 oM iM_thrown rM_tape iM_taped iM_size iM_at iM_end iM_token iM_whole iM_nameSize iM_fault iM_place iM_trouble rM_letters iM_failed iM_hasCourt rM_r rM_fresh rM_told rM_read rM_st rM_undone rM_kept iM_undos iM_images rM_fresher iM_fresherSize iM_scale iM_night rM_heardRow rM_cutRow iM_breaths iM_cutMany iM_allBreaths rM_trial rM_words iM_fewestBreaths iM_orderMany iM_orderSum iM_leastOrder rM_often iM_setMany iM_someOf iM_allOf iM_allWeight iM_enoughWeight iM_worthSum iM_firstRest iM_leastDrawn), (arI rM_r kM_r 287 fM_r), (arI rM_told kM_told 90 fM_told), (arI rQ kQ 90 fQ)] [(kM_r, .int), (kM_told, .int), (kQ, .int)])) (va_Qi (fun (r : Int32) (_ : Nat) => True ∧ (r = rval fM_r fM_told fQ iM_scale 18 p0.toNatClampNeg)) (fun (_ : Nat) (t : State) => Bw dC dI (va_A [(oc7 oM iM_thrown rM_tape iM_taped iM_size iM_at iM_end iM_token iM_whole iM_nameSize iM_fault iM_place iM_trouble rM_letters iM_failed iM_hasCourt rM_r rM_fresh rM_told rM_read rM_st rM_undone rM_kept iM_undos iM_images rM_fresher iM_fresherSize iM_scale iM_night rM_heardRow rM_cutRow iM_breaths iM_cutMany iM_allBreaths rM_trial rM_words iM_fewestBreaths iM_orderMany iM_orderSum iM_leastOrder rM_often iM_setMany iM_someOf iM_allOf iM_allWeight iM_enoughWeight iM_worthSum iM_firstRest iM_leastDrawn), (arI rM_r kM_r 287 fM_r), (arI rM_told kM_told 90 fM_told), (arI rQ kQ 90 fQ)] sz) [(oc7 oM iM_thrown rM_tape iM_taped iM_size iM_at iM_end iM_token iM_whole iM_nameSize iM_fault iM_place iM_trouble rM_letters iM_failed iM_hasCourt rM_r rM_fresh rM_told rM_read rM_st rM_undone rM_kept iM_undos iM_images rM_fresher iM_fresherSize iM_scale iM_night rM_heardRow rM_cutRow iM_breaths iM_cutMany iM_allBreaths rM_trial rM_words iM_fewestBreaths iM_orderMany iM_orderSum iM_leastOrder rM_often iM_setMany iM_someOf iM_allOf iM_allWeight iM_enoughWeight iM_worthSum iM_firstRest iM_leastDrawn), (arI rM_r kM_r 287 fM_r), (arI rM_told kM_told 90 fM_told), (arI rQ kQ 90 fQ)] [(kM_r, .int), (kM_told, .int), (kQ, .int)] t) (va_A [(oc7 oM iM_thrown rM_tape iM_taped iM_size iM_at iM_end iM_token iM_whole iM_nameSize iM_fault iM_place iM_trouble rM_letters iM_failed iM_hasCourt rM_r rM_fresh rM_told rM_read rM_st rM_undone rM_kept iM_undos iM_images rM_fresher iM_fresherSize iM_scale iM_night rM_heardRow rM_cutRow iM_breaths iM_cutMany iM_allBreaths rM_trial rM_words iM_fewestBreaths iM_orderMany iM_orderSum iM_leastOrder rM_often iM_setMany iM_someOf iM_allOf iM_allWeight iM_enoughWeight iM_worthSum iM_firstRest iM_leastDrawn), (arI rM_r kM_r 287 fM_r), (arI rM_told kM_told 90 fM_told), (arI rQ kQ 90 fQ)] sz)) 0 0 (va_A [(oc7 oM iM_thrown rM_tape iM_taped iM_size iM_at iM_end iM_token iM_whole iM_nameSize iM_fault iM_place iM_trouble rM_letters iM_failed iM_hasCourt rM_r rM_fresh rM_told rM_read rM_st rM_undone rM_kept iM_undos iM_images rM_fresher iM_fresherSize iM_scale iM_night rM_heardRow rM_cutRow iM_breaths iM_cutMany iM_allBreaths rM_trial rM_words iM_fewestBreaths iM_orderMany iM_orderSum iM_leastOrder rM_often iM_setMany iM_someOf iM_allOf iM_allWeight iM_enoughWeight iM_worthSum iM_firstRest iM_leastDrawn), (arI rM_r kM_r 287 fM_r), (arI rM_told kM_told 90 fM_told), (arI rQ kQ 90 fQ)] sz) :=
  tX7_worthAt_x_n l dC dI 18 sz oM iM_thrown rM_tape iM_taped iM_size iM_at iM_end iM_token iM_whole iM_nameSize iM_fault iM_place iM_trouble rM_letters iM_failed iM_hasCourt rM_r fM_r kM_r rM_fresh rM_told fM_told kM_told rM_read rM_st rM_undone rM_kept iM_undos iM_images rM_fresher iM_fresherSize iM_scale iM_night rM_heardRow rM_cutRow iM_breaths iM_cutMany iM_allBreaths rM_trial rM_words iM_fewestBreaths iM_orderMany iM_orderSum iM_leastOrder rM_often iM_setMany iM_someOf iM_allOf iM_allWeight iM_enoughWeight iM_worthSum iM_firstRest iM_leastDrawn rQ fQ kQ p0 p1 b_iM_taped b_iM_size b_iM_end b_iM_failed b_iM_hasCourt b_iM_undos b_iM_images b_iM_scale b_iM_breaths b_iM_cutMany r_R r_C r_told r_Q hk0 hnt hdp (by have q := r_R.nodes; omega)
set_option maxHeartbeats 4000000 in
set_option maxRecDepth 100000 in
theorem tX7_worthOf_x (l : Launch) (dC : Nat → ClassId) (dI : Nat → Nat → Nat) (sz : Nat) (oM : Nat) (iM_thrown : Int32) (rM_tape : Nat) (iM_taped : Int32) (iM_size : Int32) (iM_at : Int32) (iM_end : Int32) (iM_token : Int32) (iM_whole : Int32) (iM_nameSize : Int32) (iM_fault : Int32) (iM_place : Int32) (iM_trouble : Int32) (rM_letters : Nat) (iM_failed : Int32) (iM_hasCourt : Int32) (rM_r : Nat) (fM_r : Nat → Int32) (kM_r : ClassId) (rM_fresh : Nat) (rM_told : Nat) (fM_told : Nat → Int32) (kM_told : ClassId) (rM_read : Nat) (rM_st : Nat) (rM_undone : Nat) (rM_kept : Nat) (iM_undos : Int32) (iM_images : Int32) (rM_fresher : Nat) (iM_fresherSize : Int32) (iM_scale : Int32) (iM_night : Int32) (rM_heardRow : Nat) (rM_cutRow : Nat) (iM_breaths : Int32) (iM_cutMany : Int32) (iM_allBreaths : Int32) (rM_trial : Nat) (rM_words : Nat) (iM_fewestBreaths : Int32) (iM_orderMany : Int32) (iM_orderSum : Int32) (iM_leastOrder : Int32) (rM_often : Nat) (iM_setMany : Int32) (iM_someOf : Int32) (iM_allOf : Int32) (iM_allWeight : Int64) (iM_enoughWeight : Int64) (iM_worthSum : Int64) (iM_firstRest : Int32) (iM_leastDrawn : Int32) (rQ : Nat) (fQ : Nat → Int32) (kQ : ClassId) (p0 : Int32) (b_iM_taped : 0 ≤ iM_taped.toInt ∧ iM_taped.toInt ≤ 900) (b_iM_size : 0 ≤ iM_size.toInt ∧ iM_size.toInt ≤ 900) (b_iM_end : 0 ≤ iM_end.toInt ∧ iM_end.toInt ≤ 900) (b_iM_failed : 0 ≤ iM_failed.toInt ∧ iM_failed.toInt ≤ 1) (b_iM_hasCourt : 0 ≤ iM_hasCourt.toInt ∧ iM_hasCourt.toInt ≤ 1) (b_iM_undos : 0 ≤ iM_undos.toInt ∧ iM_undos.toInt ≤ 16) (b_iM_images : 0 ≤ iM_images.toInt ∧ iM_images.toInt ≤ 3) (b_iM_scale : 1 ≤ iM_scale.toInt ∧ iM_scale.toInt ≤ 1296) (b_iM_breaths : 0 ≤ iM_breaths.toInt ∧ iM_breaths.toInt ≤ 399) (b_iM_cutMany : 0 ≤ iM_cutMany.toInt ∧ iM_cutMany.toInt ≤ 399) (r_R : ROk fM_r) (r_C : iM_hasCourt.toInt ≤ 0 ∨ (1 ≤ (fM_r 1).toInt ∧ 0 ≤ (fM_r 6).toInt ∧ (fM_r 6).toInt < (fM_r 1).toInt)) (r_told : RowOk fM_r fM_told) (r_Q : RowOk fM_r fQ) (hk0 : 0 ≤ p0.toInt ∧ p0.toInt < (fM_r 1).toInt) (hnt : iM_night.toInt = -1) : Met l yX7_worthOf (Cond.code yX7_worthOf cX7_worthOf 3 (some .int) :: wG) ({ frames := 20, cells := 0, slots := 0, locals := 542 }) (va_Pc [.ref oM, .ref rQ, .int p0] (Pw dC dI sz [(oc7 oM iM_thrown rM_tape iM_taped iM_size iM_at iM_end iM_token iM_whole iM_nameSize iM_fault iM_place iM_trouble rM_letters iM_failed iM_hasCourt rM_r rM_fresh rM_told rM_read rM_st rM_undone rM_kept iM_undos iM_images rM_fresher iM_fresherSize iM_scale iM_night rM_heardRow rM_cutRow iM_breaths iM_cutMany iM_allBreaths rM_trial rM_words iM_fewestBreaths iM_orderMany iM_orderSum iM_leastOrder rM_often iM_setMany iM_someOf iM_allOf iM_allWeight iM_enoughWeight iM_worthSum iM_firstRest iM_leastDrawn), (arI rM_r kM_r 287 fM_r), (arI rM_told kM_told 90 fM_told), (arI rQ kQ 90 fQ)] [(kM_r, .int), (kM_told, .int), (kQ, .int)])) (va_Qi (fun (r : Int32) (_ : Nat) => True ∧ (r = rval fM_r fM_told fQ iM_scale 18 p0.toNatClampNeg)) (fun (_ : Nat) (t : State) => Bw dC dI (va_A [(oc7 oM iM_thrown rM_tape iM_taped iM_size iM_at iM_end iM_token iM_whole iM_nameSize iM_fault iM_place iM_trouble rM_letters iM_failed iM_hasCourt rM_r rM_fresh rM_told rM_read rM_st rM_undone rM_kept iM_undos iM_images rM_fresher iM_fresherSize iM_scale iM_night rM_heardRow rM_cutRow iM_breaths iM_cutMany iM_allBreaths rM_trial rM_words iM_fewestBreaths iM_orderMany iM_orderSum iM_leastOrder rM_often iM_setMany iM_someOf iM_allOf iM_allWeight iM_enoughWeight iM_worthSum iM_firstRest iM_leastDrawn), (arI rM_r kM_r 287 fM_r), (arI rM_told kM_told 90 fM_told), (arI rQ kQ 90 fQ)] sz) [(oc7 oM iM_thrown rM_tape iM_taped iM_size iM_at iM_end iM_token iM_whole iM_nameSize iM_fault iM_place iM_trouble rM_letters iM_failed iM_hasCourt rM_r rM_fresh rM_told rM_read rM_st rM_undone rM_kept iM_undos iM_images rM_fresher iM_fresherSize iM_scale iM_night rM_heardRow rM_cutRow iM_breaths iM_cutMany iM_allBreaths rM_trial rM_words iM_fewestBreaths iM_orderMany iM_orderSum iM_leastOrder rM_often iM_setMany iM_someOf iM_allOf iM_allWeight iM_enoughWeight iM_worthSum iM_firstRest iM_leastDrawn), (arI rM_r kM_r 287 fM_r), (arI rM_told kM_told 90 fM_told), (arI rQ kQ 90 fQ)] [(kM_r, .int), (kM_told, .int), (kQ, .int)] t) (va_A [(oc7 oM iM_thrown rM_tape iM_taped iM_size iM_at iM_end iM_token iM_whole iM_nameSize iM_fault iM_place iM_trouble rM_letters iM_failed iM_hasCourt rM_r rM_fresh rM_told rM_read rM_st rM_undone rM_kept iM_undos iM_images rM_fresher iM_fresherSize iM_scale iM_night rM_heardRow rM_cutRow iM_breaths iM_cutMany iM_allBreaths rM_trial rM_words iM_fewestBreaths iM_orderMany iM_orderSum iM_leastOrder rM_often iM_setMany iM_someOf iM_allOf iM_allWeight iM_enoughWeight iM_worthSum iM_firstRest iM_leastDrawn), (arI rM_r kM_r 287 fM_r), (arI rM_told kM_told 90 fM_told), (arI rQ kQ 90 fQ)] sz)) 0 0 (va_A [(oc7 oM iM_thrown rM_tape iM_taped iM_size iM_at iM_end iM_token iM_whole iM_nameSize iM_fault iM_place iM_trouble rM_letters iM_failed iM_hasCourt rM_r rM_fresh rM_told rM_read rM_st rM_undone rM_kept iM_undos iM_images rM_fresher iM_fresherSize iM_scale iM_night rM_heardRow rM_cutRow iM_breaths iM_cutMany iM_allBreaths rM_trial rM_words iM_fewestBreaths iM_orderMany iM_orderSum iM_leastOrder rM_often iM_setMany iM_someOf iM_allOf iM_allWeight iM_enoughWeight iM_worthSum iM_firstRest iM_leastDrawn), (arI rM_r kM_r 287 fM_r), (arI rM_told kM_told 90 fM_told), (arI rQ kQ 90 fQ)] sz) := by
  refine Met.ofW (cc := cX7_worthOf) (maxL := 3) (ret := (some .int)) (by decide) rfl ?_
  intro p e s m args below meth c s₁ B hml hv
  obtain ⟨rfl, hsz, hP, hK, hD0, hE⟩ := hv
  have hx := B.exec
  have hb := B.bytes
  have hr := B.returns
  have hts : ∀ w ∈ wG, w.before ([.ref oM, .ref rQ, .int p0] : List Value).toArray s = true := fun w h => atoms_spec (ws := Cond.code yX7_worthOf cX7_worthOf 3 (some .int) :: wG) B.pre w (List.mem_cons_of_mem _ h)
  have hown : s.vm.findClass RX7 = some m.cls := findClass_of_methodNamed B.named
  have hlocks := B.notSynchronized
  subst hsz
  have hD := hD0.self (sz := s.heap.size)
  generalize hAe : va_A [(oc7 oM iM_thrown rM_tape iM_taped iM_size iM_at iM_end iM_token iM_whole iM_nameSize iM_fault iM_place iM_trouble rM_letters iM_failed iM_hasCourt rM_r rM_fresh rM_told rM_read rM_st rM_undone rM_kept iM_undos iM_images rM_fresher iM_fresherSize iM_scale iM_night rM_heardRow rM_cutRow iM_breaths iM_cutMany iM_allBreaths rM_trial rM_words iM_fewestBreaths iM_orderMany iM_orderSum iM_leastOrder rM_often iM_setMany iM_someOf iM_allOf iM_allWeight iM_enoughWeight iM_worthSum iM_firstRest iM_leastDrawn), (arI rM_r kM_r 287 fM_r), (arI rM_told kM_told 90 fM_told), (arI rQ kQ 90 fQ)] s.heap.size = A at hD hE ⊢
  have hA : ∀ q : Nat, s.heap.size ≤ q → A q := fun q h => by rw [← hAe]; exact Or.inr h
  have hS : va_S A s.heap s.heap [] := va_S.rf
  have hl := lv_entry ([.ref oM, .ref rQ, .int p0]) (n := 3) (Nat.le_of_ble_eq_true rfl)
  rw [lg_entry_eq]
  generalize (lg_sl ([.ref oM, .ref rQ, .int p0]) ++ List.replicate (3 - (lg_sl ([.ref oM, .ref rQ, .int p0])).length) Slot.unset).toArray = ls at hl ⊢
  have hl : lv_has ls 3 [(0, .ref oM), (1, .ref rQ), (2, .int p0)] := hl
  have s_slips := r_R.slips
  have s_nodes := r_R.nodes
  have s_uns := r_R.uns
  have q_p0 := ti_cl (x := p0) rfl (by omega)
  have mn_p0 := r_R.many (27 + p0.toNatClampNeg) (by omega) (by omega)
  have kn_p0 := r_R.kind (9 + p0.toNatClampNeg) (by omega) (by omega)
  have in_p0 := r_R.inner p0.toNatClampNeg (by omega)
  refine lv_aload_n hx hb dX7_worthOf_0 rfl (lv_at hl 0 rfl) ?_
  refine lv_aload_n hx hb dX7_worthOf_1 rfl (lv_at hl 1 rfl) ?_
  refine lv_iload_n hx hb dX7_worthOf_2 rfl (lv_at hl 2 rfl) ?_
  refine lv_iconst (v := 0) hx hb dX7_worthOf_3 (by decide) ?_
  have hFc := va_free (wc := [(oc7 oM iM_thrown rM_tape iM_taped iM_size iM_at iM_end iM_token iM_whole iM_nameSize iM_fault iM_place iM_trouble rM_letters iM_failed iM_hasCourt rM_r rM_fresh rM_told rM_read rM_st rM_undone rM_kept iM_undos iM_images rM_fresher iM_fresherSize iM_scale iM_night rM_heardRow rM_cutRow iM_breaths iM_cutMany iM_allBreaths rM_trial rM_words iM_fewestBreaths iM_orderMany iM_orderSum iM_leastOrder rM_often iM_setMany iM_someOf iM_allOf iM_allWeight iM_enoughWeight iM_worthSum iM_firstRest iM_leastDrawn), (arI rM_r kM_r 287 fM_r), (arI rM_told kM_told 90 fM_told), (arI rQ kQ 90 fQ)]) hD hS hA [0, 1, 2, 3] rfl
  refine va_calli (va_runV (As := [.ref rQ, .int p0, .int 0]) (rest := []) ⟨hx, hb, hml, hown, hts⟩ (tX7_worthAt_x l dC dI _ oM iM_thrown rM_tape iM_taped iM_size iM_at iM_end iM_token iM_whole iM_nameSize iM_fault iM_place iM_trouble rM_letters iM_failed iM_hasCourt rM_r fM_r kM_r rM_fresh rM_told fM_told kM_told rM_read rM_st rM_undone rM_kept iM_undos iM_images rM_fresher iM_fresherSize iM_scale iM_night rM_heardRow rM_cutRow iM_breaths iM_cutMany iM_allBreaths rM_trial rM_words iM_fewestBreaths iM_orderMany iM_orderSum iM_leastOrder rM_often iM_setMany iM_someOf iM_allOf iM_allWeight iM_enoughWeight iM_worthSum iM_firstRest iM_leastDrawn rQ fQ kQ p0 0 (by first | omega | decide) (by first | omega | decide) (by first | omega | decide) (by first | omega | decide) (by first | omega | decide) (by first | omega | decide) (by first | omega | decide) (by first | omega | decide) (by first | omega | decide) (by first | omega | decide) (by assumption) (by assumption) (by assumption) (by assumption) (by first | omega | decide | assumption | (have q0 := kc_0; have q1 := kc_1; omega) | (intro h; exact absurd h (by decide))) (by first | omega | decide | assumption | (have q0 := kc_0; have q1 := kc_1; omega) | (intro h; exact absurd h (by decide))) (by first | omega | decide | assumption | (have q0 := kc_0; have q1 := kc_1; omega) | (intro h; exact absurd h (by decide)))) (cwV 3 hts (wd_V wd_649 wd_650 wd_651 wd_5 (wd_c wd_652)) rfl rfl rfl (by decide +kernel) ⟨Nat.le_of_ble_eq_true rfl, Nat.le_of_ble_eq_true rfl⟩) ⟨Pw.fb, va_recv hK hP (ci := 7) (q0 := 0) rfl rfl, fun U hU hW => Pw.to (hP.sub [0, 1, 2, 3] rfl) (hD.sub [0, 1, 2, 3] (by decide) rfl) (hK.sub [0, 1, 2] rfl) hE hS hFc hU hW⟩ rfl rfl hl.1 rfl (lv_room (Nat.le_of_ble_eq_true rfl)) dX7_worthOf_4 ⟨Nat.le_of_ble_eq_true rfl, Nat.le_of_ble_eq_true rfl⟩) hS (fun q _ h => hFc q h) hFc (fun r u t H locs ht hvm hw hB hz1 hk1 hS => ?_)
  obtain ⟨hP, hD, hK⟩ := Bw.go (ws' := [(oc7 oM iM_thrown rM_tape iM_taped iM_size iM_at iM_end iM_token iM_whole iM_nameSize iM_fault iM_place iM_trouble rM_letters iM_failed iM_hasCourt rM_r rM_fresh rM_told rM_read rM_st rM_undone rM_kept iM_undos iM_images rM_fresher iM_fresherSize iM_scale iM_night rM_heardRow rM_cutRow iM_breaths iM_cutMany iM_allBreaths rM_trial rM_words iM_fewestBreaths iM_orderMany iM_orderSum iM_leastOrder rM_often iM_setMany iM_someOf iM_allOf iM_allWeight iM_enoughWeight iM_worthSum iM_firstRest iM_leastDrawn), (arI rM_r kM_r 287 fM_r), (arI rM_told kM_told 90 fM_told), (arI rQ kQ 90 fQ)]) (tys' := [(kM_r, .int), (kM_told, .int), (kQ, .int)]) hB rfl ht hvm hP hD hK [0, 1, 2, 3] [] rfl (by decide) (by decide) [] hk1 hFc rfl rfl rfl
  clear hz1 hk1 hvm ht hB
  obtain ⟨x_4662, rfl⟩ : ∃ z, z = r := ⟨_, rfl⟩
  have lx_4662 := hw.2
  exact W.iret hx hb hr (fun t ht hW => ⟨⟨_, 0, rfl, ⟨trivial, lx_4662⟩, Bw.to (hP.sub [0, 1, 2, 3] rfl) (hD.sub [0, 1, 2, 3] (by decide) rfl) (hK.sub [0, 1, 2] rfl) ht hW⟩, hS.F ht⟩) hS.2.2 dX7_worthOf_7
set_option maxHeartbeats 4000000 in
set_option maxRecDepth 100000 in
theorem tX7_bestOf (l : Launch) (dC : Nat → ClassId) (dI : Nat → Nat → Nat) (sz : Nat) (oM : Nat) (iM_thrown : Int32) (rM_tape : Nat) (iM_taped : Int32) (iM_size : Int32) (iM_at : Int32) (iM_end : Int32) (iM_token : Int32) (iM_whole : Int32) (iM_nameSize : Int32) (iM_fault : Int32) (iM_place : Int32) (iM_trouble : Int32) (rM_letters : Nat) (iM_failed : Int32) (iM_hasCourt : Int32) (rM_r : Nat) (fM_r : Nat → Int32) (kM_r : ClassId) (rM_fresh : Nat) (rM_told : Nat) (fM_told : Nat → Int32) (kM_told : ClassId) (rM_read : Nat) (rM_st : Nat) (fM_st : Nat → Int32) (kM_st : ClassId) (rM_undone : Nat) (rM_kept : Nat) (iM_undos : Int32) (iM_images : Int32) (rM_fresher : Nat) (iM_fresherSize : Int32) (iM_scale : Int32) (iM_night : Int32) (rM_heardRow : Nat) (rM_cutRow : Nat) (iM_breaths : Int32) (iM_cutMany : Int32) (iM_allBreaths : Int32) (rM_trial : Nat) (rM_words : Nat) (iM_fewestBreaths : Int32) (iM_orderMany : Int32) (iM_orderSum : Int32) (iM_leastOrder : Int32) (rM_often : Nat) (iM_setMany : Int32) (iM_someOf : Int32) (iM_allOf : Int32) (iM_allWeight : Int64) (iM_enoughWeight : Int64) (iM_worthSum : Int64) (iM_firstRest : Int32) (iM_leastDrawn : Int32) (p0 : Int32) (b_iM_taped : 0 ≤ iM_taped.toInt ∧ iM_taped.toInt ≤ 900) (b_iM_size : 0 ≤ iM_size.toInt ∧ iM_size.toInt ≤ 900) (b_iM_end : 0 ≤ iM_end.toInt ∧ iM_end.toInt ≤ 900) (b_iM_failed : 0 ≤ iM_failed.toInt ∧ iM_failed.toInt ≤ 1) (b_iM_hasCourt : 0 ≤ iM_hasCourt.toInt ∧ iM_hasCourt.toInt ≤ 1) (b_iM_undos : 0 ≤ iM_undos.toInt ∧ iM_undos.toInt ≤ 16) (b_iM_images : 0 ≤ iM_images.toInt ∧ iM_images.toInt ≤ 3) (b_iM_scale : 1 ≤ iM_scale.toInt ∧ iM_scale.toInt ≤ 1296) (b_iM_breaths : 0 ≤ iM_breaths.toInt ∧ iM_breaths.toInt ≤ 399) (b_iM_cutMany : 0 ≤ iM_cutMany.toInt ∧ iM_cutMany.toInt ≤ 399) (r_R : ROk fM_r) (r_C : iM_hasCourt.toInt ≤ 0 ∨ (1 ≤ (fM_r 1).toInt ∧ 0 ≤ (fM_r 6).toInt ∧ (fM_r 6).toInt < (fM_r 1).toInt)) (r_st : RowOk fM_r fM_st) (r_told : RowOk fM_r fM_told) (r_wst : WorOk fM_st) (hk0 : 0 ≤ p0.toInt ∧ p0.toInt < (fM_r 1).toInt) (hnt : iM_night.toInt = -1) : Met l yX7_bestOf (Cond.code yX7_bestOf cX7_bestOf 3 (some .int) :: wG) ({ frames := 21, cells := 0, slots := 0, locals := 564 }) (va_Pc [.ref oM, .int p0] (Pw dC dI sz [(oc7 oM iM_thrown rM_tape iM_taped iM_size iM_at iM_end iM_token iM_whole iM_nameSize iM_fault iM_place iM_trouble rM_letters iM_failed iM_hasCourt rM_r rM_fresh rM_told rM_read rM_st rM_undone rM_kept iM_undos iM_images rM_fresher iM_fresherSize iM_scale iM_night rM_heardRow rM_cutRow iM_breaths iM_cutMany iM_allBreaths rM_trial rM_words iM_fewestBreaths iM_orderMany iM_orderSum iM_leastOrder rM_often iM_setMany iM_someOf iM_allOf iM_allWeight iM_enoughWeight iM_worthSum iM_firstRest iM_leastDrawn), (arI rM_r kM_r 287 fM_r), (arI rM_told kM_told 90 fM_told), (arI rM_st kM_st 90 fM_st)] [(kM_r, .int), (kM_told, .int), (kM_st, .int)])) (va_Qi (fun (r : Int32) (_ : Nat) => True ∧ (-2 ≤ r.toInt ∧ r.toInt < p0.toInt ∧ r.toInt ≤ 17)) (fun (_ : Nat) (t : State) => Bw dC dI (va_A [(oc7 oM iM_thrown rM_tape iM_taped iM_size iM_at iM_end iM_token iM_whole iM_nameSize iM_fault iM_place iM_trouble rM_letters iM_failed iM_hasCourt rM_r rM_fresh rM_told rM_read rM_st rM_undone rM_kept iM_undos iM_images rM_fresher iM_fresherSize iM_scale iM_night rM_heardRow rM_cutRow iM_breaths iM_cutMany iM_allBreaths rM_trial rM_words iM_fewestBreaths iM_orderMany iM_orderSum iM_leastOrder rM_often iM_setMany iM_someOf iM_allOf iM_allWeight iM_enoughWeight iM_worthSum iM_firstRest iM_leastDrawn), (arI rM_r kM_r 287 fM_r), (arI rM_told kM_told 90 fM_told), (arI rM_st kM_st 90 fM_st)] sz) [(oc7 oM iM_thrown rM_tape iM_taped iM_size iM_at iM_end iM_token iM_whole iM_nameSize iM_fault iM_place iM_trouble rM_letters iM_failed iM_hasCourt rM_r rM_fresh rM_told rM_read rM_st rM_undone rM_kept iM_undos iM_images rM_fresher iM_fresherSize iM_scale iM_night rM_heardRow rM_cutRow iM_breaths iM_cutMany iM_allBreaths rM_trial rM_words iM_fewestBreaths iM_orderMany iM_orderSum iM_leastOrder rM_often iM_setMany iM_someOf iM_allOf iM_allWeight iM_enoughWeight iM_worthSum iM_firstRest iM_leastDrawn), (arI rM_r kM_r 287 fM_r), (arI rM_told kM_told 90 fM_told), (arI rM_st kM_st 90 fM_st)] [(kM_r, .int), (kM_told, .int), (kM_st, .int)] t) (va_A [(oc7 oM iM_thrown rM_tape iM_taped iM_size iM_at iM_end iM_token iM_whole iM_nameSize iM_fault iM_place iM_trouble rM_letters iM_failed iM_hasCourt rM_r rM_fresh rM_told rM_read rM_st rM_undone rM_kept iM_undos iM_images rM_fresher iM_fresherSize iM_scale iM_night rM_heardRow rM_cutRow iM_breaths iM_cutMany iM_allBreaths rM_trial rM_words iM_fewestBreaths iM_orderMany iM_orderSum iM_leastOrder rM_often iM_setMany iM_someOf iM_allOf iM_allWeight iM_enoughWeight iM_worthSum iM_firstRest iM_leastDrawn), (arI rM_r kM_r 287 fM_r), (arI rM_told kM_told 90 fM_told), (arI rM_st kM_st 90 fM_st)] sz)) 0 0 (va_A [(oc7 oM iM_thrown rM_tape iM_taped iM_size iM_at iM_end iM_token iM_whole iM_nameSize iM_fault iM_place iM_trouble rM_letters iM_failed iM_hasCourt rM_r rM_fresh rM_told rM_read rM_st rM_undone rM_kept iM_undos iM_images rM_fresher iM_fresherSize iM_scale iM_night rM_heardRow rM_cutRow iM_breaths iM_cutMany iM_allBreaths rM_trial rM_words iM_fewestBreaths iM_orderMany iM_orderSum iM_leastOrder rM_often iM_setMany iM_someOf iM_allOf iM_allWeight iM_enoughWeight iM_worthSum iM_firstRest iM_leastDrawn), (arI rM_r kM_r 287 fM_r), (arI rM_told kM_told 90 fM_told), (arI rM_st kM_st 90 fM_st)] sz) := by
  refine Met.ofW (cc := cX7_bestOf) (maxL := 3) (ret := (some .int)) (by decide) rfl ?_
  intro p e s m args below meth c s₁ B hml hv
  obtain ⟨rfl, hsz, hP, hK, hD0, hE⟩ := hv
  have hx := B.exec
  have hb := B.bytes
  have hr := B.returns
  have hts : ∀ w ∈ wG, w.before ([.ref oM, .int p0] : List Value).toArray s = true := fun w h => atoms_spec (ws := Cond.code yX7_bestOf cX7_bestOf 3 (some .int) :: wG) B.pre w (List.mem_cons_of_mem _ h)
  have hown : s.vm.findClass RX7 = some m.cls := findClass_of_methodNamed B.named
  have hlocks := B.notSynchronized
  subst hsz
  have hD := hD0.self (sz := s.heap.size)
  generalize hAe : va_A [(oc7 oM iM_thrown rM_tape iM_taped iM_size iM_at iM_end iM_token iM_whole iM_nameSize iM_fault iM_place iM_trouble rM_letters iM_failed iM_hasCourt rM_r rM_fresh rM_told rM_read rM_st rM_undone rM_kept iM_undos iM_images rM_fresher iM_fresherSize iM_scale iM_night rM_heardRow rM_cutRow iM_breaths iM_cutMany iM_allBreaths rM_trial rM_words iM_fewestBreaths iM_orderMany iM_orderSum iM_leastOrder rM_often iM_setMany iM_someOf iM_allOf iM_allWeight iM_enoughWeight iM_worthSum iM_firstRest iM_leastDrawn), (arI rM_r kM_r 287 fM_r), (arI rM_told kM_told 90 fM_told), (arI rM_st kM_st 90 fM_st)] s.heap.size = A at hD hE ⊢
  have hA : ∀ q : Nat, s.heap.size ≤ q → A q := fun q h => by rw [← hAe]; exact Or.inr h
  have hS : va_S A s.heap s.heap [] := va_S.rf
  have hl := lv_entry ([.ref oM, .int p0]) (n := 3) (Nat.le_of_ble_eq_true rfl)
  rw [lg_entry_eq]
  generalize (lg_sl ([.ref oM, .int p0]) ++ List.replicate (3 - (lg_sl ([.ref oM, .int p0])).length) Slot.unset).toArray = ls at hl ⊢
  have hl : lv_has ls 3 [(0, .ref oM), (1, .int p0)] := hl
  have s_slips := r_R.slips
  have s_nodes := r_R.nodes
  have s_uns := r_R.uns
  have q_p0 := ti_cl (x := p0) rfl (by omega)
  have mn_p0 := r_R.many (27 + p0.toNatClampNeg) (by omega) (by omega)
  have kn_p0 := r_R.kind (9 + p0.toNatClampNeg) (by omega) (by omega)
  have in_p0 := r_R.inner p0.toNatClampNeg (by omega)
  refine lv_aload_n hx hb dX7_bestOf_0 rfl (lv_at hl 0 rfl) ?_
  refine va_get (D := (dC, dI)) (ci := 7) (v := .ref rM_r) (C := RX7) (T := TX7) (N := 48) hx hb hts inX7 hown hK hP 0 rfl rfl 15 (by decide) (hts _ wd_155) (fun _ h9 => h9) rfl dX7_bestOf_1 ?_
  refine lv_bipush (v := 9) hx hb dX7_bestOf_4 (by decide) ?_
  refine lv_iload_n hx hb dX7_bestOf_6 rfl (lv_at hl 1 rfl) ?_
  refine lv_iadd hx hb dX7_bestOf_7 ?_
  refine lv_topi (fun x_4693 ex_4693 => ?_)
  have vx_4693 : x_4693.toInt = p0.toInt + 9 := by have q := ti_add ex_4693 kc_9 rfl (by omega) (by omega); omega
  refine va_iald hx hb hK hP 1 0 rfl rfl (ti_in vx_4693 (by omega) (by omega)) dX7_bestOf_8 ?_
  refine lv_topi (fun x_4694 ex_4694 => ?_)
  have kx_4694 : (fM_r x_4693.toNatClampNeg).toInt = x_4694.toInt := by rw [ex_4694]
  have cx_4694 : (fM_r (9 + p0.toNatClampNeg)).toInt = x_4694.toInt := by rw [show 9 + p0.toNatClampNeg = x_4693.toNatClampNeg from by have q9 := ti_cl (x := x_4693) vx_4693 (by omega); have q_p0 := ti_cl (x := p0) rfl (by omega); omega]; exact kx_4694
  have sx_4694 := r_R.kind x_4693.toNatClampNeg (by have q9 := ti_cl (x := x_4693) vx_4693 (by omega); omega) (by have q9 := ti_cl (x := x_4693) vx_4693 (by omega); omega)
  refine lv_iconst (v := 1) hx hb dX7_bestOf_9 (by decide) ?_
  refine lv_icmp_eq (tgt := 29) hx hb dX7_bestOf_10 (by decide) (fun c_4695 => ?_) (fun c_4695 => ?_)
  · skip
    have gc_4695 := ti_eq c_4695 rfl kc_1
    refine lv_iconst (v := 0) hx hb dX7_bestOf_29 (by decide) ?_
    refine lv_istore_n (lv' := [(2, .int 0), (0, .ref oM), (1, .int p0)]) hx hb dX7_bestOf_30 rfl hl (by decide) rfl (fun ls hl => ?_)
    have hl := lv_sub hl (l' := [(2, .int 0), (0, .ref oM), (1, .int p0)]) [0, 1, 2] rfl
    have key_n_4697 : ∀ (n_4697 : Nat) (z_4696 : Int32) (H : Heap) (locs : List Loc) (ls : Array Slot), (0 ≤ z_4696.toInt ∧ z_4696.toInt < (fM_r (27 + p0.toNatClampNeg)).toInt) → (BestJ fM_r fM_told fM_st iM_scale p0.toNatClampNeg z_4696.toInt) → ((fM_r (27 + p0.toNatClampNeg)).toInt - z_4696.toInt).toNat < n_4697 → va_P (dC, dI) vwCl [(oc7 oM iM_thrown rM_tape iM_taped iM_size iM_at iM_end iM_token iM_whole iM_nameSize iM_fault iM_place iM_trouble rM_letters iM_failed iM_hasCourt rM_r rM_fresh rM_told rM_read rM_st rM_undone rM_kept iM_undos iM_images rM_fresher iM_fresherSize iM_scale iM_night rM_heardRow rM_cutRow iM_breaths iM_cutMany iM_allBreaths rM_trial rM_words iM_fewestBreaths iM_orderMany iM_orderSum iM_leastOrder rM_often iM_setMany iM_someOf iM_allOf iM_allWeight iM_enoughWeight iM_worthSum iM_firstRest iM_leastDrawn), (arI rM_r kM_r 287 fM_r), (arI rM_told kM_told 90 fM_told), (arI rM_st kM_st 90 fM_st)] H → va_D A [(oc7 oM iM_thrown rM_tape iM_taped iM_size iM_at iM_end iM_token iM_whole iM_nameSize iM_fault iM_place iM_trouble rM_letters iM_failed iM_hasCourt rM_r rM_fresh rM_told rM_read rM_st rM_undone rM_kept iM_undos iM_images rM_fresher iM_fresherSize iM_scale iM_night rM_heardRow rM_cutRow iM_breaths iM_cutMany iM_allBreaths rM_trial rM_words iM_fewestBreaths iM_orderMany iM_orderSum iM_leastOrder rM_often iM_setMany iM_someOf iM_allOf iM_allWeight iM_enoughWeight iM_worthSum iM_firstRest iM_leastDrawn), (arI rM_r kM_r 287 fM_r), (arI rM_told kM_told 90 fM_told), (arI rM_st kM_st 90 fM_st)] → va_S A s.heap H locs → lv_has ls 3 [(2, .int z_4696), (0, .ref oM), (1, .int p0)] → W p l e (headSpec (Cond.code yX7_bestOf cX7_bestOf 3 (some .int) :: wG) ({ frames := 21, cells := 0, slots := 0, locals := 564 })).room s m ([.ref oM, .int p0] : List Value).toArray below meth c H locs 0 0 (MQ below (va_Qi (fun (r : Int32) (_ : Nat) => True ∧ (-2 ≤ r.toInt ∧ r.toInt < p0.toInt ∧ r.toInt ≤ 17)) (fun (_ : Nat) (t : State) => Bw dC dI A [(oc7 oM iM_thrown rM_tape iM_taped iM_size iM_at iM_end iM_token iM_whole iM_nameSize iM_fault iM_place iM_trouble rM_letters iM_failed iM_hasCourt rM_r rM_fresh rM_told rM_read rM_st rM_undone rM_kept iM_undos iM_images rM_fresher iM_fresherSize iM_scale iM_night rM_heardRow rM_cutRow iM_breaths iM_cutMany iM_allBreaths rM_trial rM_words iM_fewestBreaths iM_orderMany iM_orderSum iM_leastOrder rM_often iM_setMany iM_someOf iM_allOf iM_allWeight iM_enoughWeight iM_worthSum iM_firstRest iM_leastDrawn), (arI rM_r kM_r 287 fM_r), (arI rM_told kM_told 90 fM_told), (arI rM_st kM_st 90 fM_st)] [(kM_r, .int), (kM_told, .int), (kM_st, .int)] t) A) ([.ref oM, .int p0] : List Value).toArray s 0 0 A) (F0 m 31 ls []) := by
      intro n_4697
      induction n_4697 with
      | zero => intro z_4696 H locs ls hi0_n_4697 hi1_n_4697 hm; exact absurd hm (by omega)
      | succ n_4697 ih_n_4697 =>
        intro z_4696 H locs ls hi0_n_4697 hi1_n_4697 hm hP hD hS hl
        refine lv_aload_n hx hb dX7_bestOf_31 rfl (lv_at hl 1 rfl) ?_
        refine lv_aload_n hx hb dX7_bestOf_32 rfl (lv_at hl 1 rfl) ?_
        refine va_get (D := (dC, dI)) (ci := 7) (v := .ref rM_st) (C := RX7) (T := TX7) (N := 48) hx hb hts inX7 hown hK hP 0 rfl rfl 19 (by decide) (hts _ wd_159) (fun _ h9 => h9) rfl dX7_bestOf_33 ?_
        refine lv_aload_n hx hb dX7_bestOf_36 rfl (lv_at hl 1 rfl) ?_
        refine va_get (D := (dC, dI)) (ci := 7) (v := .ref rM_st) (C := RX7) (T := TX7) (N := 48) hx hb hts inX7 hown hK hP 0 rfl rfl 19 (by decide) (hts _ wd_159) (fun _ h9 => h9) rfl dX7_bestOf_37 ?_
        refine lv_iconst (v := 4) hx hb dX7_bestOf_40 (by decide) ?_
        refine lv_iload_n hx hb dX7_bestOf_41 rfl (lv_at hl 2 rfl) ?_
        refine lv_imul hx hb dX7_bestOf_42 ?_
        refine lv_topi (fun x_4698 ex_4698 => ?_)
        have vx_4698 : x_4698.toInt = 4 * p0.toInt := by have q := ti_mul ex_4698 kc_4 rfl (by omega) (by omega); omega
        refine lv_iload_n hx hb dX7_bestOf_43 rfl (lv_at hl 0 rfl) ?_
        refine lv_iadd hx hb dX7_bestOf_44 ?_
        refine lv_topi (fun x_4699 ex_4699 => ?_)
        have vx_4699 : x_4699.toInt = 4 * p0.toInt + z_4696.toInt := by have q := ti_add ex_4699 vx_4698 rfl (by omega) (by omega); omega
        refine va_iald hx hb hK hP 3 2 rfl rfl (ti_in vx_4699 (by omega) (by omega)) dX7_bestOf_45 ?_
        refine lv_topi (fun x_4700 ex_4700 => ?_)
        have kx_4700 : (fM_st x_4699.toNatClampNeg).toInt = x_4700.toInt := by rw [ex_4700]
        have cx_4700 : (fM_st (4 * p0.toNatClampNeg + z_4696.toNatClampNeg)).toInt = x_4700.toInt := by rw [show 4 * p0.toNatClampNeg + z_4696.toNatClampNeg = x_4699.toNatClampNeg from by have q9 := ti_cl (x := x_4699) vx_4699 (by omega); have q_p0 := ti_cl (x := p0) rfl (by omega); have q_z_4696 := ti_cl (x := z_4696) rfl (by omega); omega]; exact kx_4700
        have wx_4700 := r_st.lt p0.toNatClampNeg (z_4696.toNatClampNeg) (by have q_1 := ti_cl (x := p0) rfl (by omega); have q_2 := ti_cl (x := z_4696) rfl (by omega); omega) (by have q_1 := ti_cl (x := p0) rfl (by omega); have q_2 := ti_cl (x := z_4696) rfl (by omega); omega)
        have wx_4700 : 0 ≤ x_4700.toInt ∧ x_4700.toInt < p0.toInt := by have q_1 := ti_cl (x := p0) rfl (by omega); have q_2 := ti_cl (x := z_4696) rfl (by omega); have q_3 := cx_4700; rw [show 4 * p0.toNatClampNeg + (z_4696.toNatClampNeg) = 4 * p0.toNatClampNeg + z_4696.toNatClampNeg from by omega] at wx_4700; omega
        have hFc := va_free (wc := [(oc7 oM iM_thrown rM_tape iM_taped iM_size iM_at iM_end iM_token iM_whole iM_nameSize iM_fault iM_place iM_trouble rM_letters iM_failed iM_hasCourt rM_r rM_fresh rM_told rM_read rM_st rM_undone rM_kept iM_undos iM_images rM_fresher iM_fresherSize iM_scale iM_night rM_heardRow rM_cutRow iM_breaths iM_cutMany iM_allBreaths rM_trial rM_words iM_fewestBreaths iM_orderMany iM_orderSum iM_leastOrder rM_often iM_setMany iM_someOf iM_allOf iM_allWeight iM_enoughWeight iM_worthSum iM_firstRest iM_leastDrawn), (arI rM_r kM_r 287 fM_r), (arI rM_told kM_told 90 fM_told), (arI rM_st kM_st 90 fM_st)]) hD hS hA [0, 1, 2, 3] rfl
        refine va_calli (va_runV (As := [.ref rM_st, .int x_4700]) (rest := []) ⟨hx, hb, hml, hown, hts⟩ (tX7_worthOf_x l dC dI _ oM iM_thrown rM_tape iM_taped iM_size iM_at iM_end iM_token iM_whole iM_nameSize iM_fault iM_place iM_trouble rM_letters iM_failed iM_hasCourt rM_r fM_r kM_r rM_fresh rM_told fM_told kM_told rM_read rM_st rM_undone rM_kept iM_undos iM_images rM_fresher iM_fresherSize iM_scale iM_night rM_heardRow rM_cutRow iM_breaths iM_cutMany iM_allBreaths rM_trial rM_words iM_fewestBreaths iM_orderMany iM_orderSum iM_leastOrder rM_often iM_setMany iM_someOf iM_allOf iM_allWeight iM_enoughWeight iM_worthSum iM_firstRest iM_leastDrawn rM_st fM_st kM_st x_4700 (by first | omega | decide) (by first | omega | decide) (by first | omega | decide) (by first | omega | decide) (by first | omega | decide) (by first | omega | decide) (by first | omega | decide) (by first | omega | decide) (by first | omega | decide) (by first | omega | decide) (by assumption) (by assumption) (by assumption) (by assumption) (by first | omega | decide | assumption | (have q0 := kc_0; have q1 := kc_1; omega) | (intro h; exact absurd h (by decide))) (by first | omega | decide | assumption | (have q0 := kc_0; have q1 := kc_1; omega) | (intro h; exact absurd h (by decide)))) (cwV 2 hts (wd_V wd_645 wd_646 wd_647 wd_5 (wd_c wd_648)) rfl rfl rfl (by decide +kernel) ⟨Nat.le_of_ble_eq_true rfl, Nat.le_of_ble_eq_true rfl⟩) ⟨Pw.fb, va_recv hK hP (ci := 7) (q0 := 0) rfl rfl, fun U hU hW => Pw.to (hP.sub [0, 1, 2, 3] rfl) (hD.sub [0, 1, 2, 3] (by decide) rfl) (hK.sub [0, 1, 2] rfl) hE hS hFc hU hW⟩ rfl rfl hl.1 rfl (lv_room (Nat.le_of_ble_eq_true rfl)) dX7_bestOf_46 ⟨Nat.le_of_ble_eq_true rfl, Nat.le_of_ble_eq_true rfl⟩) hS (fun q _ h => hFc q h) hFc (fun r u t H locs ht hvm hw hB hz1 hk1 hS => ?_)
        obtain ⟨hP, hD, hK⟩ := Bw.go (ws' := [(oc7 oM iM_thrown rM_tape iM_taped iM_size iM_at iM_end iM_token iM_whole iM_nameSize iM_fault iM_place iM_trouble rM_letters iM_failed iM_hasCourt rM_r rM_fresh rM_told rM_read rM_st rM_undone rM_kept iM_undos iM_images rM_fresher iM_fresherSize iM_scale iM_night rM_heardRow rM_cutRow iM_breaths iM_cutMany iM_allBreaths rM_trial rM_words iM_fewestBreaths iM_orderMany iM_orderSum iM_leastOrder rM_often iM_setMany iM_someOf iM_allOf iM_allWeight iM_enoughWeight iM_worthSum iM_firstRest iM_leastDrawn), (arI rM_r kM_r 287 fM_r), (arI rM_told kM_told 90 fM_told), (arI rM_st kM_st 90 fM_st)]) (tys' := [(kM_r, .int), (kM_told, .int), (kM_st, .int)]) hB rfl ht hvm hP hD hK [0, 1, 2, 3] [] rfl (by decide) (by decide) [] hk1 hFc rfl rfl rfl
        clear hz1 hk1 hvm ht hB
        obtain ⟨x_4701, rfl⟩ : ∃ z, z = r := ⟨_, rfl⟩
        have lx_4701 := hw.2
        refine lv_aload_n hx hb dX7_bestOf_49 rfl (lv_at hl 1 rfl) ?_
        refine lv_aload_n hx hb dX7_bestOf_50 rfl (lv_at hl 1 rfl) ?_
        refine va_get (D := (dC, dI)) (ci := 7) (v := .ref rM_st) (C := RX7) (T := TX7) (N := 48) hx hb hts inX7 hown hK hP 0 rfl rfl 19 (by decide) (hts _ wd_159) (fun _ h9 => h9) rfl dX7_bestOf_51 ?_
        refine lv_iload_n hx hb dX7_bestOf_54 rfl (lv_at hl 2 rfl) ?_
        have hFc := va_free (wc := [(oc7 oM iM_thrown rM_tape iM_taped iM_size iM_at iM_end iM_token iM_whole iM_nameSize iM_fault iM_place iM_trouble rM_letters iM_failed iM_hasCourt rM_r rM_fresh rM_told rM_read rM_st rM_undone rM_kept iM_undos iM_images rM_fresher iM_fresherSize iM_scale iM_night rM_heardRow rM_cutRow iM_breaths iM_cutMany iM_allBreaths rM_trial rM_words iM_fewestBreaths iM_orderMany iM_orderSum iM_leastOrder rM_often iM_setMany iM_someOf iM_allOf iM_allWeight iM_enoughWeight iM_worthSum iM_firstRest iM_leastDrawn), (arI rM_r kM_r 287 fM_r), (arI rM_told kM_told 90 fM_told), (arI rM_st kM_st 90 fM_st)]) hD hS hA [0, 1, 2, 3] rfl
        refine va_calli (va_runV (As := [.ref rM_st, .int p0]) (rest := [.int x_4701]) ⟨hx, hb, hml, hown, hts⟩ (tX7_worthOf_x l dC dI _ oM iM_thrown rM_tape iM_taped iM_size iM_at iM_end iM_token iM_whole iM_nameSize iM_fault iM_place iM_trouble rM_letters iM_failed iM_hasCourt rM_r fM_r kM_r rM_fresh rM_told fM_told kM_told rM_read rM_st rM_undone rM_kept iM_undos iM_images rM_fresher iM_fresherSize iM_scale iM_night rM_heardRow rM_cutRow iM_breaths iM_cutMany iM_allBreaths rM_trial rM_words iM_fewestBreaths iM_orderMany iM_orderSum iM_leastOrder rM_often iM_setMany iM_someOf iM_allOf iM_allWeight iM_enoughWeight iM_worthSum iM_firstRest iM_leastDrawn rM_st fM_st kM_st p0 (by first | omega | decide) (by first | omega | decide) (by first | omega | decide) (by first | omega | decide) (by first | omega | decide) (by first | omega | decide) (by first | omega | decide) (by first | omega | decide) (by first | omega | decide) (by first | omega | decide) (by assumption) (by assumption) (by assumption) (by assumption) (by first | omega | decide | assumption | (have q0 := kc_0; have q1 := kc_1; omega) | (intro h; exact absurd h (by decide))) (by first | omega | decide | assumption | (have q0 := kc_0; have q1 := kc_1; omega) | (intro h; exact absurd h (by decide)))) (cwV 2 hts (wd_V wd_645 wd_646 wd_647 wd_5 (wd_c wd_648)) rfl rfl rfl (by decide +kernel) ⟨Nat.le_of_ble_eq_true rfl, Nat.le_of_ble_eq_true rfl⟩) ⟨Pw.fb, va_recv hK hP (ci := 7) (q0 := 0) rfl rfl, fun U hU hW => Pw.to (hP.sub [0, 1, 2, 3] rfl) (hD.sub [0, 1, 2, 3] (by decide) rfl) (hK.sub [0, 1, 2] rfl) hE hS hFc hU hW⟩ rfl rfl hl.1 rfl (lv_room (Nat.le_of_ble_eq_true rfl)) dX7_bestOf_55 ⟨Nat.le_of_ble_eq_true rfl, Nat.le_of_ble_eq_true rfl⟩) hS (fun q _ h => hFc q h) hFc (fun r u t H locs ht hvm hw hB hz1 hk1 hS => ?_)
        obtain ⟨hP, hD, hK⟩ := Bw.go (ws' := [(oc7 oM iM_thrown rM_tape iM_taped iM_size iM_at iM_end iM_token iM_whole iM_nameSize iM_fault iM_place iM_trouble rM_letters iM_failed iM_hasCourt rM_r rM_fresh rM_told rM_read rM_st rM_undone rM_kept iM_undos iM_images rM_fresher iM_fresherSize iM_scale iM_night rM_heardRow rM_cutRow iM_breaths iM_cutMany iM_allBreaths rM_trial rM_words iM_fewestBreaths iM_orderMany iM_orderSum iM_leastOrder rM_often iM_setMany iM_someOf iM_allOf iM_allWeight iM_enoughWeight iM_worthSum iM_firstRest iM_leastDrawn), (arI rM_r kM_r 287 fM_r), (arI rM_told kM_told 90 fM_told), (arI rM_st kM_st 90 fM_st)]) (tys' := [(kM_r, .int), (kM_told, .int), (kM_st, .int)]) hB rfl ht hvm hP hD hK [0, 1, 2, 3] [] rfl (by decide) (by decide) [] hk1 hFc rfl rfl rfl
        clear hz1 hk1 hvm ht hB
        obtain ⟨x_4702, rfl⟩ : ∃ z, z = r := ⟨_, rfl⟩
        have lx_4702 := hw.2
        refine lv_icmp_eq (tgt := 67) hx hb dX7_bestOf_58 (by decide) (fun c_4703 => ?_) (fun c_4703 => ?_)
        · skip
          have gc_4703 := ti_eq c_4703 rfl rfl
          refine lv_aload_n hx hb dX7_bestOf_67 rfl (lv_at hl 1 rfl) ?_
          refine va_get (D := (dC, dI)) (ci := 7) (v := .ref rM_st) (C := RX7) (T := TX7) (N := 48) hx hb hts inX7 hown hK hP 0 rfl rfl 19 (by decide) (hts _ wd_159) (fun _ h9 => h9) rfl dX7_bestOf_68 ?_
          refine lv_iconst (v := 4) hx hb dX7_bestOf_71 (by decide) ?_
          refine lv_iload_n hx hb dX7_bestOf_72 rfl (lv_at hl 2 rfl) ?_
          refine lv_imul hx hb dX7_bestOf_73 ?_
          refine lv_topi (fun x_4704 ex_4704 => ?_)
          have vx_4704 : x_4704.toInt = 4 * p0.toInt := by have q := ti_mul ex_4704 kc_4 rfl (by omega) (by omega); omega
          refine lv_iload_n hx hb dX7_bestOf_74 rfl (lv_at hl 0 rfl) ?_
          refine lv_iadd hx hb dX7_bestOf_75 ?_
          refine lv_topi (fun x_4705 ex_4705 => ?_)
          have vx_4705 : x_4705.toInt = 4 * p0.toInt + z_4696.toInt := by have q := ti_add ex_4705 vx_4704 rfl (by omega) (by omega); omega
          refine va_iald hx hb hK hP 3 2 rfl rfl (ti_in vx_4705 (by omega) (by omega)) dX7_bestOf_76 ?_
          refine lv_topi (fun x_4706 ex_4706 => ?_)
          have kx_4706 : (fM_st x_4705.toNatClampNeg).toInt = x_4706.toInt := by rw [ex_4706]
          have cx_4706 : (fM_st (4 * p0.toNatClampNeg + z_4696.toNatClampNeg)).toInt = x_4706.toInt := by rw [show 4 * p0.toNatClampNeg + z_4696.toNatClampNeg = x_4705.toNatClampNeg from by have q9 := ti_cl (x := x_4705) vx_4705 (by omega); have q_p0 := ti_cl (x := p0) rfl (by omega); have q_z_4696 := ti_cl (x := z_4696) rfl (by omega); omega]; exact kx_4706
          have wx_4706 := r_st.lt p0.toNatClampNeg (z_4696.toNatClampNeg) (by have q_1 := ti_cl (x := p0) rfl (by omega); have q_2 := ti_cl (x := z_4696) rfl (by omega); omega) (by have q_1 := ti_cl (x := p0) rfl (by omega); have q_2 := ti_cl (x := z_4696) rfl (by omega); omega)
          have wx_4706 : 0 ≤ x_4706.toInt ∧ x_4706.toInt < p0.toInt := by have q_1 := ti_cl (x := p0) rfl (by omega); have q_2 := ti_cl (x := z_4696) rfl (by omega); have q_3 := cx_4706; rw [show 4 * p0.toNatClampNeg + (z_4696.toNatClampNeg) = 4 * p0.toNatClampNeg + z_4696.toNatClampNeg from by omega] at wx_4706; omega
          exact W.iret hx hb hr (fun t ht hW => ⟨⟨_, 0, rfl, ⟨trivial, (by first | omega | assumption)⟩, Bw.to (hP.sub [0, 1, 2, 3] rfl) (hD.sub [0, 1, 2, 3] (by decide) rfl) (hK.sub [0, 1, 2] rfl) ht hW⟩, hS.F ht⟩) hS.2.2 dX7_bestOf_77
        · skip
          have gc_4703 := ti_ne c_4703 rfl rfl
          obtain ⟨x_4707, ex_4707⟩ : ∃ z : Int32, z = z_4696 + Int32.ofInt 1 := ⟨_, rfl⟩
          have vx_4707 : x_4707.toInt = z_4696.toInt + 1 := by have q := ti_add (y := 1) ex_4707 rfl kc_1 (by omega) (by omega); omega
          refine lv_iinc (v := x_4707) (lv' := [(2, .int x_4707), (0, .ref oM), (1, .int p0)]) hx hb dX7_bestOf_61 hl (k := 0) rfl ex_4707.symm (by decide) rfl (fun ls hl => ?_)
          refine lv_goto (tgt := 31) hx hb dX7_bestOf_64 (by decide) ?_
          have ex9 : BestJ fM_r fM_told fM_st iM_scale p0.toNatClampNeg x_4707.toInt := best_go (n := z_4696.toNatClampNeg) hi1_n_4697 (by have q1 := ti_cl (x := z_4696) rfl (by omega); omega) (by have q := cx_4700; rw [show 4 * p0.toNatClampNeg + z_4696.toNatClampNeg = 4 * p0.toNatClampNeg + z_4696.toNatClampNeg from by omega]; exact q) lx_4701 lx_4702 (by omega) (by omega)
          exact ih_n_4697 x_4707 _ _ _  (by have q9 := best_lt ex9; omega) ex9 (by omega) (hP.sub [0, 1, 2, 3] rfl) (hD.sub [0, 1, 2, 3] (by decide) rfl) hS (lv_sub hl [0, 1, 2] rfl)
    have be9 := best_ex (ft := fM_told) (sc := iM_scale) r_R r_st r_wst (by omega) (k := p0.toNatClampNeg) (by omega) (by omega)
    have mm9 : 1 ≤ (fM_r (27 + p0.toNatClampNeg)).toInt := in_p0 (by omega)
    have bf9 : BestJ fM_r fM_told fM_st iM_scale p0.toNatClampNeg (0 : Int32).toInt := best_start (by have q := kc_0; omega) be9
    clear be9
    exact key_n_4697 ((((fM_r (27 + p0.toNatClampNeg)).toInt - (0 : Int32).toInt).toNat) + 1) 0 _ _ _  (by first | omega | decide | assumption | (have q0 := kc_0; have q1 := kc_1; omega)) (by first | omega | decide | assumption | (have q0 := kc_0; have q1 := kc_1; omega)) (by omega) hP hD hS hl
  · skip
    have gc_4695 := ti_ne c_4695 rfl kc_1
    refine lv_aload_n hx hb dX7_bestOf_13 rfl (lv_at hl 0 rfl) ?_
    refine va_get (D := (dC, dI)) (ci := 7) (v := .ref rM_r) (C := RX7) (T := TX7) (N := 48) hx hb hts inX7 hown hK hP 0 rfl rfl 15 (by decide) (hts _ wd_155) (fun _ h9 => h9) rfl dX7_bestOf_14 ?_
    refine lv_bipush (v := 9) hx hb dX7_bestOf_17 (by decide) ?_
    refine lv_iload_n hx hb dX7_bestOf_19 rfl (lv_at hl 1 rfl) ?_
    refine lv_iadd hx hb dX7_bestOf_20 ?_
    refine lv_topi (fun x_4708 ex_4708 => ?_)
    have vx_4708 : x_4708.toInt = p0.toInt + 9 := by have q := ti_add ex_4708 kc_9 rfl (by omega) (by omega); omega
    refine va_iald hx hb hK hP 1 0 rfl rfl (ti_in vx_4708 (by omega) (by omega)) dX7_bestOf_21 ?_
    refine lv_topi (fun x_4709 ex_4709 => ?_)
    have kx_4709 : (fM_r x_4708.toNatClampNeg).toInt = x_4709.toInt := by rw [ex_4709]
    have cx_4709 : (fM_r (9 + p0.toNatClampNeg)).toInt = x_4709.toInt := by rw [show 9 + p0.toNatClampNeg = x_4708.toNatClampNeg from by have q9 := ti_cl (x := x_4708) vx_4708 (by omega); have q_p0 := ti_cl (x := p0) rfl (by omega); omega]; exact kx_4709
    have sx_4709 := r_R.kind x_4708.toNatClampNeg (by have q9 := ti_cl (x := x_4708) vx_4708 (by omega); omega) (by have q9 := ti_cl (x := x_4708) vx_4708 (by omega); omega)
    refine lv_iconst (v := 2) hx hb dX7_bestOf_22 (by decide) ?_
    refine lv_icmp_eq (tgt := 29) hx hb dX7_bestOf_23 (by decide) (fun c_4710 => ?_) (fun c_4710 => ?_)
    · skip
      have gc_4710 := ti_eq c_4710 rfl kc_2
      refine lv_iconst (v := 0) hx hb dX7_bestOf_29 (by decide) ?_
      refine lv_istore_n (lv' := [(2, .int 0), (0, .ref oM), (1, .int p0)]) hx hb dX7_bestOf_30 rfl hl (by decide) rfl (fun ls hl => ?_)
      have hl := lv_sub hl (l' := [(2, .int 0), (0, .ref oM), (1, .int p0)]) [0, 1, 2] rfl
      have key_n_4712 : ∀ (n_4712 : Nat) (z_4711 : Int32) (H : Heap) (locs : List Loc) (ls : Array Slot), (0 ≤ z_4711.toInt ∧ z_4711.toInt < (fM_r (27 + p0.toNatClampNeg)).toInt) → (BestJ fM_r fM_told fM_st iM_scale p0.toNatClampNeg z_4711.toInt) → ((fM_r (27 + p0.toNatClampNeg)).toInt - z_4711.toInt).toNat < n_4712 → va_P (dC, dI) vwCl [(oc7 oM iM_thrown rM_tape iM_taped iM_size iM_at iM_end iM_token iM_whole iM_nameSize iM_fault iM_place iM_trouble rM_letters iM_failed iM_hasCourt rM_r rM_fresh rM_told rM_read rM_st rM_undone rM_kept iM_undos iM_images rM_fresher iM_fresherSize iM_scale iM_night rM_heardRow rM_cutRow iM_breaths iM_cutMany iM_allBreaths rM_trial rM_words iM_fewestBreaths iM_orderMany iM_orderSum iM_leastOrder rM_often iM_setMany iM_someOf iM_allOf iM_allWeight iM_enoughWeight iM_worthSum iM_firstRest iM_leastDrawn), (arI rM_r kM_r 287 fM_r), (arI rM_told kM_told 90 fM_told), (arI rM_st kM_st 90 fM_st)] H → va_D A [(oc7 oM iM_thrown rM_tape iM_taped iM_size iM_at iM_end iM_token iM_whole iM_nameSize iM_fault iM_place iM_trouble rM_letters iM_failed iM_hasCourt rM_r rM_fresh rM_told rM_read rM_st rM_undone rM_kept iM_undos iM_images rM_fresher iM_fresherSize iM_scale iM_night rM_heardRow rM_cutRow iM_breaths iM_cutMany iM_allBreaths rM_trial rM_words iM_fewestBreaths iM_orderMany iM_orderSum iM_leastOrder rM_often iM_setMany iM_someOf iM_allOf iM_allWeight iM_enoughWeight iM_worthSum iM_firstRest iM_leastDrawn), (arI rM_r kM_r 287 fM_r), (arI rM_told kM_told 90 fM_told), (arI rM_st kM_st 90 fM_st)] → va_S A s.heap H locs → lv_has ls 3 [(2, .int z_4711), (0, .ref oM), (1, .int p0)] → W p l e (headSpec (Cond.code yX7_bestOf cX7_bestOf 3 (some .int) :: wG) ({ frames := 21, cells := 0, slots := 0, locals := 564 })).room s m ([.ref oM, .int p0] : List Value).toArray below meth c H locs 0 0 (MQ below (va_Qi (fun (r : Int32) (_ : Nat) => True ∧ (-2 ≤ r.toInt ∧ r.toInt < p0.toInt ∧ r.toInt ≤ 17)) (fun (_ : Nat) (t : State) => Bw dC dI A [(oc7 oM iM_thrown rM_tape iM_taped iM_size iM_at iM_end iM_token iM_whole iM_nameSize iM_fault iM_place iM_trouble rM_letters iM_failed iM_hasCourt rM_r rM_fresh rM_told rM_read rM_st rM_undone rM_kept iM_undos iM_images rM_fresher iM_fresherSize iM_scale iM_night rM_heardRow rM_cutRow iM_breaths iM_cutMany iM_allBreaths rM_trial rM_words iM_fewestBreaths iM_orderMany iM_orderSum iM_leastOrder rM_often iM_setMany iM_someOf iM_allOf iM_allWeight iM_enoughWeight iM_worthSum iM_firstRest iM_leastDrawn), (arI rM_r kM_r 287 fM_r), (arI rM_told kM_told 90 fM_told), (arI rM_st kM_st 90 fM_st)] [(kM_r, .int), (kM_told, .int), (kM_st, .int)] t) A) ([.ref oM, .int p0] : List Value).toArray s 0 0 A) (F0 m 31 ls []) := by
        intro n_4712
        induction n_4712 with
        | zero => intro z_4711 H locs ls hi0_n_4712 hi1_n_4712 hm; exact absurd hm (by omega)
        | succ n_4712 ih_n_4712 =>
          intro z_4711 H locs ls hi0_n_4712 hi1_n_4712 hm hP hD hS hl
          refine lv_aload_n hx hb dX7_bestOf_31 rfl (lv_at hl 1 rfl) ?_
          refine lv_aload_n hx hb dX7_bestOf_32 rfl (lv_at hl 1 rfl) ?_
          refine va_get (D := (dC, dI)) (ci := 7) (v := .ref rM_st) (C := RX7) (T := TX7) (N := 48) hx hb hts inX7 hown hK hP 0 rfl rfl 19 (by decide) (hts _ wd_159) (fun _ h9 => h9) rfl dX7_bestOf_33 ?_
          refine lv_aload_n hx hb dX7_bestOf_36 rfl (lv_at hl 1 rfl) ?_
          refine va_get (D := (dC, dI)) (ci := 7) (v := .ref rM_st) (C := RX7) (T := TX7) (N := 48) hx hb hts inX7 hown hK hP 0 rfl rfl 19 (by decide) (hts _ wd_159) (fun _ h9 => h9) rfl dX7_bestOf_37 ?_
          refine lv_iconst (v := 4) hx hb dX7_bestOf_40 (by decide) ?_
          refine lv_iload_n hx hb dX7_bestOf_41 rfl (lv_at hl 2 rfl) ?_
          refine lv_imul hx hb dX7_bestOf_42 ?_
          refine lv_topi (fun x_4713 ex_4713 => ?_)
          have vx_4713 : x_4713.toInt = 4 * p0.toInt := by have q := ti_mul ex_4713 kc_4 rfl (by omega) (by omega); omega
          refine lv_iload_n hx hb dX7_bestOf_43 rfl (lv_at hl 0 rfl) ?_
          refine lv_iadd hx hb dX7_bestOf_44 ?_
          refine lv_topi (fun x_4714 ex_4714 => ?_)
          have vx_4714 : x_4714.toInt = 4 * p0.toInt + z_4711.toInt := by have q := ti_add ex_4714 vx_4713 rfl (by omega) (by omega); omega
          refine va_iald hx hb hK hP 3 2 rfl rfl (ti_in vx_4714 (by omega) (by omega)) dX7_bestOf_45 ?_
          refine lv_topi (fun x_4715 ex_4715 => ?_)
          have kx_4715 : (fM_st x_4714.toNatClampNeg).toInt = x_4715.toInt := by rw [ex_4715]
          have cx_4715 : (fM_st (4 * p0.toNatClampNeg + z_4711.toNatClampNeg)).toInt = x_4715.toInt := by rw [show 4 * p0.toNatClampNeg + z_4711.toNatClampNeg = x_4714.toNatClampNeg from by have q9 := ti_cl (x := x_4714) vx_4714 (by omega); have q_p0 := ti_cl (x := p0) rfl (by omega); have q_z_4711 := ti_cl (x := z_4711) rfl (by omega); omega]; exact kx_4715
          have wx_4715 := r_st.lt p0.toNatClampNeg (z_4711.toNatClampNeg) (by have q_1 := ti_cl (x := p0) rfl (by omega); have q_2 := ti_cl (x := z_4711) rfl (by omega); omega) (by have q_1 := ti_cl (x := p0) rfl (by omega); have q_2 := ti_cl (x := z_4711) rfl (by omega); omega)
          have wx_4715 : 0 ≤ x_4715.toInt ∧ x_4715.toInt < p0.toInt := by have q_1 := ti_cl (x := p0) rfl (by omega); have q_2 := ti_cl (x := z_4711) rfl (by omega); have q_3 := cx_4715; rw [show 4 * p0.toNatClampNeg + (z_4711.toNatClampNeg) = 4 * p0.toNatClampNeg + z_4711.toNatClampNeg from by omega] at wx_4715; omega
          have hFc := va_free (wc := [(oc7 oM iM_thrown rM_tape iM_taped iM_size iM_at iM_end iM_token iM_whole iM_nameSize iM_fault iM_place iM_trouble rM_letters iM_failed iM_hasCourt rM_r rM_fresh rM_told rM_read rM_st rM_undone rM_kept iM_undos iM_images rM_fresher iM_fresherSize iM_scale iM_night rM_heardRow rM_cutRow iM_breaths iM_cutMany iM_allBreaths rM_trial rM_words iM_fewestBreaths iM_orderMany iM_orderSum iM_leastOrder rM_often iM_setMany iM_someOf iM_allOf iM_allWeight iM_enoughWeight iM_worthSum iM_firstRest iM_leastDrawn), (arI rM_r kM_r 287 fM_r), (arI rM_told kM_told 90 fM_told), (arI rM_st kM_st 90 fM_st)]) hD hS hA [0, 1, 2, 3] rfl
          refine va_calli (va_runV (As := [.ref rM_st, .int x_4715]) (rest := []) ⟨hx, hb, hml, hown, hts⟩ (tX7_worthOf_x l dC dI _ oM iM_thrown rM_tape iM_taped iM_size iM_at iM_end iM_token iM_whole iM_nameSize iM_fault iM_place iM_trouble rM_letters iM_failed iM_hasCourt rM_r fM_r kM_r rM_fresh rM_told fM_told kM_told rM_read rM_st rM_undone rM_kept iM_undos iM_images rM_fresher iM_fresherSize iM_scale iM_night rM_heardRow rM_cutRow iM_breaths iM_cutMany iM_allBreaths rM_trial rM_words iM_fewestBreaths iM_orderMany iM_orderSum iM_leastOrder rM_often iM_setMany iM_someOf iM_allOf iM_allWeight iM_enoughWeight iM_worthSum iM_firstRest iM_leastDrawn rM_st fM_st kM_st x_4715 (by first | omega | decide) (by first | omega | decide) (by first | omega | decide) (by first | omega | decide) (by first | omega | decide) (by first | omega | decide) (by first | omega | decide) (by first | omega | decide) (by first | omega | decide) (by first | omega | decide) (by assumption) (by assumption) (by assumption) (by assumption) (by first | omega | decide | assumption | (have q0 := kc_0; have q1 := kc_1; omega) | (intro h; exact absurd h (by decide))) (by first | omega | decide | assumption | (have q0 := kc_0; have q1 := kc_1; omega) | (intro h; exact absurd h (by decide)))) (cwV 2 hts (wd_V wd_645 wd_646 wd_647 wd_5 (wd_c wd_648)) rfl rfl rfl (by decide +kernel) ⟨Nat.le_of_ble_eq_true rfl, Nat.le_of_ble_eq_true rfl⟩) ⟨Pw.fb, va_recv hK hP (ci := 7) (q0 := 0) rfl rfl, fun U hU hW => Pw.to (hP.sub [0, 1, 2, 3] rfl) (hD.sub [0, 1, 2, 3] (by decide) rfl) (hK.sub [0, 1, 2] rfl) hE hS hFc hU hW⟩ rfl rfl hl.1 rfl (lv_room (Nat.le_of_ble_eq_true rfl)) dX7_bestOf_46 ⟨Nat.le_of_ble_eq_true rfl, Nat.le_of_ble_eq_true rfl⟩) hS (fun q _ h => hFc q h) hFc (fun r u t H locs ht hvm hw hB hz1 hk1 hS => ?_)
          obtain ⟨hP, hD, hK⟩ := Bw.go (ws' := [(oc7 oM iM_thrown rM_tape iM_taped iM_size iM_at iM_end iM_token iM_whole iM_nameSize iM_fault iM_place iM_trouble rM_letters iM_failed iM_hasCourt rM_r rM_fresh rM_told rM_read rM_st rM_undone rM_kept iM_undos iM_images rM_fresher iM_fresherSize iM_scale iM_night rM_heardRow rM_cutRow iM_breaths iM_cutMany iM_allBreaths rM_trial rM_words iM_fewestBreaths iM_orderMany iM_orderSum iM_leastOrder rM_often iM_setMany iM_someOf iM_allOf iM_allWeight iM_enoughWeight iM_worthSum iM_firstRest iM_leastDrawn), (arI rM_r kM_r 287 fM_r), (arI rM_told kM_told 90 fM_told), (arI rM_st kM_st 90 fM_st)]) (tys' := [(kM_r, .int), (kM_told, .int), (kM_st, .int)]) hB rfl ht hvm hP hD hK [0, 1, 2, 3] [] rfl (by decide) (by decide) [] hk1 hFc rfl rfl rfl
          clear hz1 hk1 hvm ht hB
          obtain ⟨x_4716, rfl⟩ : ∃ z, z = r := ⟨_, rfl⟩
          have lx_4716 := hw.2
          refine lv_aload_n hx hb dX7_bestOf_49 rfl (lv_at hl 1 rfl) ?_
          refine lv_aload_n hx hb dX7_bestOf_50 rfl (lv_at hl 1 rfl) ?_
          refine va_get (D := (dC, dI)) (ci := 7) (v := .ref rM_st) (C := RX7) (T := TX7) (N := 48) hx hb hts inX7 hown hK hP 0 rfl rfl 19 (by decide) (hts _ wd_159) (fun _ h9 => h9) rfl dX7_bestOf_51 ?_
          refine lv_iload_n hx hb dX7_bestOf_54 rfl (lv_at hl 2 rfl) ?_
          have hFc := va_free (wc := [(oc7 oM iM_thrown rM_tape iM_taped iM_size iM_at iM_end iM_token iM_whole iM_nameSize iM_fault iM_place iM_trouble rM_letters iM_failed iM_hasCourt rM_r rM_fresh rM_told rM_read rM_st rM_undone rM_kept iM_undos iM_images rM_fresher iM_fresherSize iM_scale iM_night rM_heardRow rM_cutRow iM_breaths iM_cutMany iM_allBreaths rM_trial rM_words iM_fewestBreaths iM_orderMany iM_orderSum iM_leastOrder rM_often iM_setMany iM_someOf iM_allOf iM_allWeight iM_enoughWeight iM_worthSum iM_firstRest iM_leastDrawn), (arI rM_r kM_r 287 fM_r), (arI rM_told kM_told 90 fM_told), (arI rM_st kM_st 90 fM_st)]) hD hS hA [0, 1, 2, 3] rfl
          refine va_calli (va_runV (As := [.ref rM_st, .int p0]) (rest := [.int x_4716]) ⟨hx, hb, hml, hown, hts⟩ (tX7_worthOf_x l dC dI _ oM iM_thrown rM_tape iM_taped iM_size iM_at iM_end iM_token iM_whole iM_nameSize iM_fault iM_place iM_trouble rM_letters iM_failed iM_hasCourt rM_r fM_r kM_r rM_fresh rM_told fM_told kM_told rM_read rM_st rM_undone rM_kept iM_undos iM_images rM_fresher iM_fresherSize iM_scale iM_night rM_heardRow rM_cutRow iM_breaths iM_cutMany iM_allBreaths rM_trial rM_words iM_fewestBreaths iM_orderMany iM_orderSum iM_leastOrder rM_often iM_setMany iM_someOf iM_allOf iM_allWeight iM_enoughWeight iM_worthSum iM_firstRest iM_leastDrawn rM_st fM_st kM_st p0 (by first | omega | decide) (by first | omega | decide) (by first | omega | decide) (by first | omega | decide) (by first | omega | decide) (by first | omega | decide) (by first | omega | decide) (by first | omega | decide) (by first | omega | decide) (by first | omega | decide) (by assumption) (by assumption) (by assumption) (by assumption) (by first | omega | decide | assumption | (have q0 := kc_0; have q1 := kc_1; omega) | (intro h; exact absurd h (by decide))) (by first | omega | decide | assumption | (have q0 := kc_0; have q1 := kc_1; omega) | (intro h; exact absurd h (by decide)))) (cwV 2 hts (wd_V wd_645 wd_646 wd_647 wd_5 (wd_c wd_648)) rfl rfl rfl (by decide +kernel) ⟨Nat.le_of_ble_eq_true rfl, Nat.le_of_ble_eq_true rfl⟩) ⟨Pw.fb, va_recv hK hP (ci := 7) (q0 := 0) rfl rfl, fun U hU hW => Pw.to (hP.sub [0, 1, 2, 3] rfl) (hD.sub [0, 1, 2, 3] (by decide) rfl) (hK.sub [0, 1, 2] rfl) hE hS hFc hU hW⟩ rfl rfl hl.1 rfl (lv_room (Nat.le_of_ble_eq_true rfl)) dX7_bestOf_55 ⟨Nat.le_of_ble_eq_true rfl, Nat.le_of_ble_eq_true rfl⟩) hS (fun q _ h => hFc q h) hFc (fun r u t H locs ht hvm hw hB hz1 hk1 hS => ?_)
          obtain ⟨hP, hD, hK⟩ := Bw.go (ws' := [(oc7 oM iM_thrown rM_tape iM_taped iM_size iM_at iM_end iM_token iM_whole iM_nameSize iM_fault iM_place iM_trouble rM_letters iM_failed iM_hasCourt rM_r rM_fresh rM_told rM_read rM_st rM_undone rM_kept iM_undos iM_images rM_fresher iM_fresherSize iM_scale iM_night rM_heardRow rM_cutRow iM_breaths iM_cutMany iM_allBreaths rM_trial rM_words iM_fewestBreaths iM_orderMany iM_orderSum iM_leastOrder rM_often iM_setMany iM_someOf iM_allOf iM_allWeight iM_enoughWeight iM_worthSum iM_firstRest iM_leastDrawn), (arI rM_r kM_r 287 fM_r), (arI rM_told kM_told 90 fM_told), (arI rM_st kM_st 90 fM_st)]) (tys' := [(kM_r, .int), (kM_told, .int), (kM_st, .int)]) hB rfl ht hvm hP hD hK [0, 1, 2, 3] [] rfl (by decide) (by decide) [] hk1 hFc rfl rfl rfl
          clear hz1 hk1 hvm ht hB
          obtain ⟨x_4717, rfl⟩ : ∃ z, z = r := ⟨_, rfl⟩
          have lx_4717 := hw.2
          refine lv_icmp_eq (tgt := 67) hx hb dX7_bestOf_58 (by decide) (fun c_4718 => ?_) (fun c_4718 => ?_)
          · skip
            have gc_4718 := ti_eq c_4718 rfl rfl
            refine lv_aload_n hx hb dX7_bestOf_67 rfl (lv_at hl 1 rfl) ?_
            refine va_get (D := (dC, dI)) (ci := 7) (v := .ref rM_st) (C := RX7) (T := TX7) (N := 48) hx hb hts inX7 hown hK hP 0 rfl rfl 19 (by decide) (hts _ wd_159) (fun _ h9 => h9) rfl dX7_bestOf_68 ?_
            refine lv_iconst (v := 4) hx hb dX7_bestOf_71 (by decide) ?_
            refine lv_iload_n hx hb dX7_bestOf_72 rfl (lv_at hl 2 rfl) ?_
            refine lv_imul hx hb dX7_bestOf_73 ?_
            refine lv_topi (fun x_4719 ex_4719 => ?_)
            have vx_4719 : x_4719.toInt = 4 * p0.toInt := by have q := ti_mul ex_4719 kc_4 rfl (by omega) (by omega); omega
            refine lv_iload_n hx hb dX7_bestOf_74 rfl (lv_at hl 0 rfl) ?_
            refine lv_iadd hx hb dX7_bestOf_75 ?_
            refine lv_topi (fun x_4720 ex_4720 => ?_)
            have vx_4720 : x_4720.toInt = 4 * p0.toInt + z_4711.toInt := by have q := ti_add ex_4720 vx_4719 rfl (by omega) (by omega); omega
            refine va_iald hx hb hK hP 3 2 rfl rfl (ti_in vx_4720 (by omega) (by omega)) dX7_bestOf_76 ?_
            refine lv_topi (fun x_4721 ex_4721 => ?_)
            have kx_4721 : (fM_st x_4720.toNatClampNeg).toInt = x_4721.toInt := by rw [ex_4721]
            have cx_4721 : (fM_st (4 * p0.toNatClampNeg + z_4711.toNatClampNeg)).toInt = x_4721.toInt := by rw [show 4 * p0.toNatClampNeg + z_4711.toNatClampNeg = x_4720.toNatClampNeg from by have q9 := ti_cl (x := x_4720) vx_4720 (by omega); have q_p0 := ti_cl (x := p0) rfl (by omega); have q_z_4711 := ti_cl (x := z_4711) rfl (by omega); omega]; exact kx_4721
            have wx_4721 := r_st.lt p0.toNatClampNeg (z_4711.toNatClampNeg) (by have q_1 := ti_cl (x := p0) rfl (by omega); have q_2 := ti_cl (x := z_4711) rfl (by omega); omega) (by have q_1 := ti_cl (x := p0) rfl (by omega); have q_2 := ti_cl (x := z_4711) rfl (by omega); omega)
            have wx_4721 : 0 ≤ x_4721.toInt ∧ x_4721.toInt < p0.toInt := by have q_1 := ti_cl (x := p0) rfl (by omega); have q_2 := ti_cl (x := z_4711) rfl (by omega); have q_3 := cx_4721; rw [show 4 * p0.toNatClampNeg + (z_4711.toNatClampNeg) = 4 * p0.toNatClampNeg + z_4711.toNatClampNeg from by omega] at wx_4721; omega
            exact W.iret hx hb hr (fun t ht hW => ⟨⟨_, 0, rfl, ⟨trivial, (by first | omega | assumption)⟩, Bw.to (hP.sub [0, 1, 2, 3] rfl) (hD.sub [0, 1, 2, 3] (by decide) rfl) (hK.sub [0, 1, 2] rfl) ht hW⟩, hS.F ht⟩) hS.2.2 dX7_bestOf_77
          · skip
            have gc_4718 := ti_ne c_4718 rfl rfl
            obtain ⟨x_4722, ex_4722⟩ : ∃ z : Int32, z = z_4711 + Int32.ofInt 1 := ⟨_, rfl⟩
            have vx_4722 : x_4722.toInt = z_4711.toInt + 1 := by have q := ti_add (y := 1) ex_4722 rfl kc_1 (by omega) (by omega); omega
            refine lv_iinc (v := x_4722) (lv' := [(2, .int x_4722), (0, .ref oM), (1, .int p0)]) hx hb dX7_bestOf_61 hl (k := 0) rfl ex_4722.symm (by decide) rfl (fun ls hl => ?_)
            refine lv_goto (tgt := 31) hx hb dX7_bestOf_64 (by decide) ?_
            have ex9 : BestJ fM_r fM_told fM_st iM_scale p0.toNatClampNeg x_4722.toInt := best_go (n := z_4711.toNatClampNeg) hi1_n_4712 (by have q1 := ti_cl (x := z_4711) rfl (by omega); omega) (by have q := cx_4715; rw [show 4 * p0.toNatClampNeg + z_4711.toNatClampNeg = 4 * p0.toNatClampNeg + z_4711.toNatClampNeg from by omega]; exact q) lx_4716 lx_4717 (by omega) (by omega)
            exact ih_n_4712 x_4722 _ _ _  (by have q9 := best_lt ex9; omega) ex9 (by omega) (hP.sub [0, 1, 2, 3] rfl) (hD.sub [0, 1, 2, 3] (by decide) rfl) hS (lv_sub hl [0, 1, 2] rfl)
      have be9 := best_ex (ft := fM_told) (sc := iM_scale) r_R r_st r_wst (by omega) (k := p0.toNatClampNeg) (by omega) (by omega)
      have mm9 : 1 ≤ (fM_r (27 + p0.toNatClampNeg)).toInt := in_p0 (by omega)
      have bf9 : BestJ fM_r fM_told fM_st iM_scale p0.toNatClampNeg (0 : Int32).toInt := best_start (by have q := kc_0; omega) be9
      clear be9
      exact key_n_4712 ((((fM_r (27 + p0.toNatClampNeg)).toInt - (0 : Int32).toInt).toNat) + 1) 0 _ _ _  (by first | omega | decide | assumption | (have q0 := kc_0; have q1 := kc_1; omega)) (by first | omega | decide | assumption | (have q0 := kc_0; have q1 := kc_1; omega)) (by omega) hP hD hS hl
    · skip
      have gc_4710 := ti_ne c_4710 rfl kc_2
      refine lv_bipush (v := (-2)) hx hb dX7_bestOf_26 (by decide) ?_
      exact W.iret hx hb hr (fun t ht hW => ⟨⟨_, 0, rfl, ⟨trivial, (by have q := kc_m2; first | omega | assumption)⟩, Bw.to (hP.sub [0, 1, 2, 3] rfl) (hD.sub [0, 1, 2, 3] (by decide) rfl) (hK.sub [0, 1, 2] rfl) ht hW⟩, hS.F ht⟩) hS.2.2 dX7_bestOf_28
