set_option maxHeartbeats 4000000 in
set_option maxRecDepth 100000 in
theorem tX7_layScale (l : Launch) (dC : Nat → ClassId) (dI : Nat → Nat → Nat) (sz : Nat) (oM : Nat) (iM_thrown : Int32) (rM_tape : Nat) (iM_taped : Int32) (iM_size : Int32) (iM_at : Int32) (iM_end : Int32) (iM_token : Int32) (iM_whole : Int32) (iM_nameSize : Int32) (iM_fault : Int32) (iM_place : Int32) (iM_trouble : Int32) (rM_letters : Nat) (iM_failed : Int32) (iM_hasCourt : Int32) (rM_r : Nat) (fM_r : Nat → Int32) (kM_r : ClassId) (rM_fresh : Nat) (rM_told : Nat) (rM_read : Nat) (rM_st : Nat) (rM_undone : Nat) (rM_kept : Nat) (iM_undos : Int32) (iM_images : Int32) (rM_fresher : Nat) (iM_fresherSize : Int32) (iM_scale : Int32) (iM_night : Int32) (rM_heardRow : Nat) (rM_cutRow : Nat) (iM_breaths : Int32) (iM_cutMany : Int32) (iM_allBreaths : Int32) (rM_trial : Nat) (rM_words : Nat) (iM_fewestBreaths : Int32) (iM_orderMany : Int32) (iM_orderSum : Int32) (iM_leastOrder : Int32) (rM_often : Nat) (iM_setMany : Int32) (iM_someOf : Int32) (iM_allOf : Int32) (iM_allWeight : Int64) (iM_enoughWeight : Int64) (iM_worthSum : Int64) (iM_firstRest : Int32) (iM_leastDrawn : Int32) (b_iM_taped : 0 ≤ iM_taped.toInt ∧ iM_taped.toInt ≤ 900) (b_iM_size : 0 ≤ iM_size.toInt ∧ iM_size.toInt ≤ 900) (b_iM_end : 0 ≤ iM_end.toInt ∧ iM_end.toInt ≤ 900) (b_iM_failed : 0 ≤ iM_failed.toInt ∧ iM_failed.toInt ≤ 1) (b_iM_hasCourt : 0 ≤ iM_hasCourt.toInt ∧ iM_hasCourt.toInt ≤ 1) (b_iM_undos : 0 ≤ iM_undos.toInt ∧ iM_undos.toInt ≤ 16) (b_iM_images : 0 ≤ iM_images.toInt ∧ iM_images.toInt ≤ 3) (b_iM_scale : 1 ≤ iM_scale.toInt ∧ iM_scale.toInt ≤ 1296) (b_iM_breaths : 0 ≤ iM_breaths.toInt ∧ iM_breaths.toInt ≤ 399) (b_iM_cutMany : 0 ≤ iM_cutMany.toInt ∧ iM_cutMany.toInt ≤ 399) (r_R : ROk fM_r) (r_C : iM_hasCourt.toInt ≤ 0 ∨ (1 ≤ (fM_r 1).toInt ∧ 0 ≤ (fM_r 6).toInt ∧ (fM_r 6).toInt < (fM_r 1).toInt))  : Met l yX7_layScale (Cond.code yX7_layScale cX7_layScale 2 none :: wG) ({ frames := 1, cells := 0, slots := 0, locals := 23 }) (va_Pc [.ref oM] (Pw dC dI sz [(oc7 oM iM_thrown rM_tape iM_taped iM_size iM_at iM_end iM_token iM_whole iM_nameSize iM_fault iM_place iM_trouble rM_letters iM_failed iM_hasCourt rM_r rM_fresh rM_told rM_read rM_st rM_undone rM_kept iM_undos iM_images rM_fresher iM_fresherSize iM_scale iM_night rM_heardRow rM_cutRow iM_breaths iM_cutMany iM_allBreaths rM_trial rM_words iM_fewestBreaths iM_orderMany iM_orderSum iM_leastOrder rM_often iM_setMany iM_someOf iM_allOf iM_allWeight iM_enoughWeight iM_worthSum iM_firstRest iM_leastDrawn), (arI rM_r kM_r 287 fM_r)] [(kM_r, .int)])) (va_Qv (fun (_ : Nat) => True) (fun (_ : Nat) (t : State) => ∃ (niM_scale : Int32), (1 ≤ niM_scale.toInt ∧ niM_scale.toInt ≤ 1296) ∧ (PX7_layScale fM_r = niM_scale) ∧ Bw dC dI (va_A [(oc7 oM iM_thrown rM_tape iM_taped iM_size iM_at iM_end iM_token iM_whole iM_nameSize iM_fault iM_place iM_trouble rM_letters iM_failed iM_hasCourt rM_r rM_fresh rM_told rM_read rM_st rM_undone rM_kept iM_undos iM_images rM_fresher iM_fresherSize iM_scale iM_night rM_heardRow rM_cutRow iM_breaths iM_cutMany iM_allBreaths rM_trial rM_words iM_fewestBreaths iM_orderMany iM_orderSum iM_leastOrder rM_often iM_setMany iM_someOf iM_allOf iM_allWeight iM_enoughWeight iM_worthSum iM_firstRest iM_leastDrawn), (arI rM_r kM_r 287 fM_r)] sz) [(oc7 oM iM_thrown rM_tape iM_taped iM_size iM_at iM_end iM_token iM_whole iM_nameSize iM_fault iM_place iM_trouble rM_letters iM_failed iM_hasCourt rM_r rM_fresh rM_told rM_read rM_st rM_undone rM_kept iM_undos iM_images rM_fresher iM_fresherSize niM_scale iM_night rM_heardRow rM_cutRow iM_breaths iM_cutMany iM_allBreaths rM_trial rM_words iM_fewestBreaths iM_orderMany iM_orderSum iM_leastOrder rM_often iM_setMany iM_someOf iM_allOf iM_allWeight iM_enoughWeight iM_worthSum iM_firstRest iM_leastDrawn), (arI rM_r kM_r 287 fM_r)] [(kM_r, .int)] t) (va_A [(oc7 oM iM_thrown rM_tape iM_taped iM_size iM_at iM_end iM_token iM_whole iM_nameSize iM_fault iM_place iM_trouble rM_letters iM_failed iM_hasCourt rM_r rM_fresh rM_told rM_read rM_st rM_undone rM_kept iM_undos iM_images rM_fresher iM_fresherSize iM_scale iM_night rM_heardRow rM_cutRow iM_breaths iM_cutMany iM_allBreaths rM_trial rM_words iM_fewestBreaths iM_orderMany iM_orderSum iM_leastOrder rM_often iM_setMany iM_someOf iM_allOf iM_allWeight iM_enoughWeight iM_worthSum iM_firstRest iM_leastDrawn), (arI rM_r kM_r 287 fM_r)] sz)) 0 0 (va_A [(oc7 oM iM_thrown rM_tape iM_taped iM_size iM_at iM_end iM_token iM_whole iM_nameSize iM_fault iM_place iM_trouble rM_letters iM_failed iM_hasCourt rM_r rM_fresh rM_told rM_read rM_st rM_undone rM_kept iM_undos iM_images rM_fresher iM_fresherSize iM_scale iM_night rM_heardRow rM_cutRow iM_breaths iM_cutMany iM_allBreaths rM_trial rM_words iM_fewestBreaths iM_orderMany iM_orderSum iM_leastOrder rM_often iM_setMany iM_someOf iM_allOf iM_allWeight iM_enoughWeight iM_worthSum iM_firstRest iM_leastDrawn), (arI rM_r kM_r 287 fM_r)] sz) := by
  refine Met.ofW (cc := cX7_layScale) (maxL := 2) (ret := none) pnX7 rfl ?_
  intro p e s m args below meth c s₁ B hml hv
  obtain ⟨rfl, hsz, hP, hK, hD0, hE⟩ := hv
  have hx := B.exec
  have hb := B.bytes
  have hr := B.returns
  have hts : ∀ w ∈ wG, w.before ([.ref oM] : List Value).toArray s = true := fun w h => atoms_spec (ws := Cond.code yX7_layScale cX7_layScale 2 none :: wG) B.pre w (List.mem_cons_of_mem _ h)
  have hown : s.vm.findClass RX7 = some m.cls := own_of B.named rfl
  have hlocks := B.notSynchronized
  subst hsz
  have hD := hD0.self (sz := s.heap.size)
  generalize hAe : va_A [(oc7 oM iM_thrown rM_tape iM_taped iM_size iM_at iM_end iM_token iM_whole iM_nameSize iM_fault iM_place iM_trouble rM_letters iM_failed iM_hasCourt rM_r rM_fresh rM_told rM_read rM_st rM_undone rM_kept iM_undos iM_images rM_fresher iM_fresherSize iM_scale iM_night rM_heardRow rM_cutRow iM_breaths iM_cutMany iM_allBreaths rM_trial rM_words iM_fewestBreaths iM_orderMany iM_orderSum iM_leastOrder rM_often iM_setMany iM_someOf iM_allOf iM_allWeight iM_enoughWeight iM_worthSum iM_firstRest iM_leastDrawn), (arI rM_r kM_r 287 fM_r)] s.heap.size = A at hD hE ⊢
  have hA : ∀ q : Nat, s.heap.size ≤ q → A q := fun q h => by rw [← hAe]; exact Or.inr h
  have hS : va_S A s.heap s.heap [] := va_S.rf
  have hl := lv_entry ([.ref oM]) (n := 2) (Nat.le_of_ble_eq_true rfl)
  rw [lg_entry_eq]
  generalize (lg_sl ([.ref oM]) ++ List.replicate (2 - (lg_sl ([.ref oM])).length) Slot.unset).toArray = ls at hl ⊢
  have hl : lv_has ls 2 [(0, .ref oM)] := hl
  have hG := PX7_layScale_eq fM_r
  have s_slips := r_R.slips
  have s_nodes := r_R.nodes
  have s_uns := r_R.uns
  refine lv_aload_n hx hb dX7_layScale_0 rfl (lv_at hl 0 rfl) ?_
  refine lv_iconst (v := 1) hx hb dX7_layScale_1 (by decide) ?_
  refine va_put (D := (dC, dI)) (ci := 7) (v := .int 1) (ty := .int) (C := RX7) (T := TX7) (N := 48) hx hb hts inX7 tyX7 tyX7_ok nmX7 hown hK hP hD hS 0 rfl rfl 26 (by decide) (hts _ wd_163) (fun _ h9 => h9) rfl (by decide +kernel) rfl rfl (Nat.le_of_ble_eq_true rfl) dX7_layScale_2 (fun H locs hP hD hS => ?_)
  obtain ⟨hP, hD⟩ := wl2 (ws' := [(oc7 oM iM_thrown rM_tape iM_taped iM_size iM_at iM_end iM_token iM_whole iM_nameSize iM_fault iM_place iM_trouble rM_letters iM_failed iM_hasCourt rM_r rM_fresh rM_told rM_read rM_st rM_undone rM_kept iM_undos iM_images rM_fresher iM_fresherSize 1 iM_night rM_heardRow rM_cutRow iM_breaths iM_cutMany iM_allBreaths rM_trial rM_words iM_fewestBreaths iM_orderMany iM_orderSum iM_leastOrder rM_often iM_setMany iM_someOf iM_allOf iM_allWeight iM_enoughWeight iM_worthSum iM_firstRest iM_leastDrawn), (arI rM_r kM_r 287 fM_r)]) hP hD rfl
  refine lv_iconst (v := 0) hx hb dX7_layScale_5 (by decide) ?_
  refine lv_istore_n (lv' := [(1, .int 0), (0, .ref oM)]) hx hb dX7_layScale_6 rfl hl (by decide) rfl (fun ls hl => ?_)
  have hl := lv_sub hl (l' := [(1, .int 0), (0, .ref oM)]) [0, 1] rfl
  have key_n_6887 : ∀ (n_6887 : Nat) (z_6885 : Int32) (z_6886 : Int32) (H : Heap) (locs : List Loc) (ls : Array Slot), (1 ≤ z_6886.toInt ∧ z_6886.toInt ≤ 1296) → (0 ≤ z_6885.toInt ∧ z_6885.toInt ≤ (fM_r 1).toInt) → (ScI (cntP (fun k => (fM_r (9 + k)).toInt = 3) (z_6885.toNatClampNeg)) z_6886.toInt) → ((fM_r 1).toInt - z_6885.toInt).toNat < n_6887 → (PX7_layScale fM_r = HX7_layScale_0 fM_r n_6887 z_6885 z_6886) → va_P (dC, dI) vwCl [(oc7 oM iM_thrown rM_tape iM_taped iM_size iM_at iM_end iM_token iM_whole iM_nameSize iM_fault iM_place iM_trouble rM_letters iM_failed iM_hasCourt rM_r rM_fresh rM_told rM_read rM_st rM_undone rM_kept iM_undos iM_images rM_fresher iM_fresherSize z_6886 iM_night rM_heardRow rM_cutRow iM_breaths iM_cutMany iM_allBreaths rM_trial rM_words iM_fewestBreaths iM_orderMany iM_orderSum iM_leastOrder rM_often iM_setMany iM_someOf iM_allOf iM_allWeight iM_enoughWeight iM_worthSum iM_firstRest iM_leastDrawn), (arI rM_r kM_r 287 fM_r)] H → va_D A [(oc7 oM iM_thrown rM_tape iM_taped iM_size iM_at iM_end iM_token iM_whole iM_nameSize iM_fault iM_place iM_trouble rM_letters iM_failed iM_hasCourt rM_r rM_fresh rM_told rM_read rM_st rM_undone rM_kept iM_undos iM_images rM_fresher iM_fresherSize z_6886 iM_night rM_heardRow rM_cutRow iM_breaths iM_cutMany iM_allBreaths rM_trial rM_words iM_fewestBreaths iM_orderMany iM_orderSum iM_leastOrder rM_often iM_setMany iM_someOf iM_allOf iM_allWeight iM_enoughWeight iM_worthSum iM_firstRest iM_leastDrawn), (arI rM_r kM_r 287 fM_r)] → va_S A s.heap H locs → lv_has ls 2 [(1, .int z_6885), (0, .ref oM)] → W p l e (headSpec (Cond.code yX7_layScale cX7_layScale 2 none :: wG) ({ frames := 1, cells := 0, slots := 0, locals := 23 })).room s m ([.ref oM] : List Value).toArray below meth c H locs 0 0 (MQ below (va_Qv (fun (_ : Nat) => True) (fun (_ : Nat) (t : State) => ∃ (niM_scale : Int32), (1 ≤ niM_scale.toInt ∧ niM_scale.toInt ≤ 1296) ∧ (PX7_layScale fM_r = niM_scale) ∧ Bw dC dI A [(oc7 oM iM_thrown rM_tape iM_taped iM_size iM_at iM_end iM_token iM_whole iM_nameSize iM_fault iM_place iM_trouble rM_letters iM_failed iM_hasCourt rM_r rM_fresh rM_told rM_read rM_st rM_undone rM_kept iM_undos iM_images rM_fresher iM_fresherSize niM_scale iM_night rM_heardRow rM_cutRow iM_breaths iM_cutMany iM_allBreaths rM_trial rM_words iM_fewestBreaths iM_orderMany iM_orderSum iM_leastOrder rM_often iM_setMany iM_someOf iM_allOf iM_allWeight iM_enoughWeight iM_worthSum iM_firstRest iM_leastDrawn), (arI rM_r kM_r 287 fM_r)] [(kM_r, .int)] t) A) ([.ref oM] : List Value).toArray s 0 0 A) (F0 m 7 ls []) := by
    intro n_6887
    induction n_6887 with
    | zero => intro z_6885 z_6886 H locs ls b_z_6886 hi0_n_6887 hi1_n_6887 hm; exact absurd hm (Nat.not_lt_zero _)
    | succ n_6887 ih_n_6887 =>
      intro z_6885 z_6886 H locs ls b_z_6886 hi0_n_6887 hi1_n_6887 hm_n_6887 hG hP hD hS hl
      have hG := hG.trans (HX7_layScale_0_eq _ _ _ _)
      refine lv_iload_n hx hb dX7_layScale_7 rfl (lv_at hl 0 rfl) ?_
      refine lv_aload_n hx hb dX7_layScale_8 rfl (lv_at hl 1 rfl) ?_
      refine va_get (D := (dC, dI)) (ci := 7) (v := .ref rM_r) (C := RX7) (T := TX7) (N := 48) hx hb hts inX7 hown hK hP 0 rfl rfl 15 (by decide) (hts _ wd_155) (fun _ h9 => h9) rfl dX7_layScale_9 ?_
      refine lv_iconst (v := 1) hx hb dX7_layScale_12 (by decide) ?_
      refine va_iald hx hb hK hP 1 0 rfl rfl (by unfold vp_in; decide) dX7_layScale_13 ?_
      refine lv_topi (fun x_6888 ex_6888 => ?_)
      have hG := hG.trans (lt_eq ex_6888)
      have cx_6888 : (fM_r 1).toInt = x_6888.toInt := congrArg Int32.toInt (show fM_r 1 = x_6888 from ex_6888.symm)
      have sx_6888 := r_R.nodes
      refine lv_icmp_ge (tgt := 50) hx hb dX7_layScale_14 (by decide) (fun c_6889 => ?_) (fun c_6889 => ?_)
      · skip
        have hG := hG.trans (if_pos c_6889)
        have gc_6889 := ti_le c_6889 rfl rfl
        exact wq_v hx hb hr 0 trivial (fun t ht hW => ⟨z_6886, b_z_6886, hG, Bw.to hP hD hK ht hW⟩) hS dX7_layScale_50 hlocks
      · skip
        have hG := hG.trans (if_neg c_6889)
        have gc_6889 := ti_nle c_6889 rfl rfl
        refine lv_aload_n hx hb dX7_layScale_17 rfl (lv_at hl 1 rfl) ?_
        refine va_get (D := (dC, dI)) (ci := 7) (v := .ref rM_r) (C := RX7) (T := TX7) (N := 48) hx hb hts inX7 hown hK hP 0 rfl rfl 15 (by decide) (hts _ wd_155) (fun _ h9 => h9) rfl dX7_layScale_18 ?_
        refine lv_bipush (v := 9) hx hb dX7_layScale_21 (by decide) ?_
        refine lv_iload_n hx hb dX7_layScale_23 rfl (lv_at hl 0 rfl) ?_
        refine lv_iadd hx hb dX7_layScale_24 ?_
        refine lv_topi (fun x_6890 ex_6890 => ?_)
        have hG := hG.trans (lt_eq ex_6890)
        have vx_6890 : x_6890.toInt = z_6885.toInt + 9 := om_296ce4dd (ti_add ex_6890 kc_9 rfl (om_090bbef4 hi0_n_6887.1) (om_40a1f881 s_nodes.2 hi0_n_6887.2))
        refine va_iald hx hb hK hP 1 0 rfl rfl (ti_in vx_6890 (om_edbe2e4c hi0_n_6887.1) (om_5e511aa9 s_nodes.2 hi0_n_6887.2)) dX7_layScale_25 ?_
        refine lv_topi (fun x_6891 ex_6891 => ?_)
        have hG := hG.trans (lt_eq ex_6891)
        have kx_6891 : (fM_r x_6890.toNatClampNeg).toInt = x_6891.toInt := by rw [ex_6891]
        have cx_6891 : (fM_r (9 + z_6885.toNatClampNeg)).toInt = x_6891.toInt := by rw [show 9 + z_6885.toNatClampNeg = x_6890.toNatClampNeg from (om_32f1c3e7 (ti_cl (x := z_6885) rfl hi0_n_6887.1) (ti_cl (x := x_6890) vx_6890 (om_edbe2e4c hi0_n_6887.1)))]; exact kx_6891
        have sx_6891 := r_R.kind x_6890.toNatClampNeg (om_462cc4af (ti_cl (x := x_6890) vx_6890 (om_edbe2e4c hi0_n_6887.1)) hi0_n_6887.1) (om_19da1274 (ti_cl (x := x_6890) vx_6890 (om_edbe2e4c hi0_n_6887.1)) s_nodes.2 cx_6888 gc_6889)
        have ct9 := cnt_at (P := fun k => (fM_r (9 + k)).toInt = 3) z_6885.toNatClampNeg
        have cb9 := r_R.cc (z_6885.toNatClampNeg + 1) (by have q1 := ti_cl (x := z_6885) rfl hi0_n_6887.1; omega)
        refine lv_iconst (v := 3) hx hb dX7_layScale_26 (by decide) ?_
        refine lv_icmp_ne (tgt := 44) hx hb dX7_layScale_27 (by decide) (fun c_6892 => ?_) (fun c_6892 => ?_)
        · skip
          have hG := hG.trans (if_neg c_6892)
          have gc_6892 := ti_ne c_6892 rfl kc_3
          replace gc_6892 : x_6891.toInt + (-2) ≤ 0 := om_3c8c485b gc_6892 kx_6891 sx_6891.2
          obtain ⟨x_6893, ex_6893⟩ : ∃ z : Int32, z = z_6885 + Int32.ofInt 1 := ⟨_, rfl⟩
          have hG := hG.trans (lt_eq ex_6893)
          have vx_6893 : x_6893.toInt = z_6885.toInt + 1 := ti_add (y := 1) ex_6893 rfl kc_1 (om_4e4fce7e hi0_n_6887.1) (om_656ddbff s_nodes.2 hi0_n_6887.2)
          refine lv_iinc (v := x_6893) (lv' := [(1, .int x_6893), (0, .ref oM)]) hx hb dX7_layScale_44 hl (k := 0) rfl ex_6893.symm (by decide) rfl (fun ls hl => ?_)
          refine lv_goto (tgt := 7) hx hb dX7_layScale_47 (by decide) ?_
          exact ih_n_6887 x_6893 z_6886 _ _ _ b_z_6886 ⟨(om_83b90de5 hi0_n_6887.1 vx_6893), (om_1ad1f819 cx_6888 gc_6889 vx_6893)⟩ (by rw [show x_6893.toNatClampNeg = z_6885.toNatClampNeg + 1 from (by have q_1 := ti_cl (x := x_6893) vx_6893 (om_9548a8fd hi0_n_6887.1); have q_2 := ti_cl (x := z_6885) rfl hi0_n_6887.1; omega)]; rw [ct9.2 (by show ¬ (fM_r (9 + z_6885.toNatClampNeg)).toInt = 3; omega)]; exact hi1_n_6887) (ms_lt hm_n_6887 (om_dd4ae0bc vx_6893) (om_6d498008 cx_6888 gc_6889)) hG hP hD hS (lv_sub hl [0, 1] rfl)
        · skip
          have hG := hG.trans (if_pos c_6892)
          have gc_6892 := ti_eq c_6892 rfl kc_3
          refine lv_aload_n hx hb dX7_layScale_30 rfl (lv_at hl 1 rfl) ?_
          refine lv_dup hx hb dX7_layScale_31 rfl ?_
          refine va_get (D := (dC, dI)) (ci := 7) (v := .int z_6886) (C := RX7) (T := TX7) (N := 48) hx hb hts inX7 hown hK hP 0 rfl rfl 26 (by decide) (hts _ wd_163) (fun _ h9 => h9) rfl dX7_layScale_32 ?_
          refine lv_aload_n hx hb dX7_layScale_35 rfl (lv_at hl 1 rfl) ?_
          refine lv_iload_n hx hb dX7_layScale_36 rfl (lv_at hl 0 rfl) ?_
          have hFc := va_freeI hD hS hA
          refine va_calli (va_runV (As := [.int z_6885]) (rest := [.int z_6886, .ref oM]) ⟨hx, hb, hml, hown, hts⟩ (tX7_weightsOf l dC dI _ oM iM_thrown rM_tape iM_taped iM_size iM_at iM_end iM_token iM_whole iM_nameSize iM_fault iM_place iM_trouble rM_letters iM_failed iM_hasCourt rM_r fM_r kM_r rM_fresh rM_told rM_read rM_st rM_undone rM_kept iM_undos iM_images rM_fresher iM_fresherSize z_6886 iM_night rM_heardRow rM_cutRow iM_breaths iM_cutMany iM_allBreaths rM_trial rM_words iM_fewestBreaths iM_orderMany iM_orderSum iM_leastOrder rM_often iM_setMany iM_someOf iM_allOf iM_allWeight iM_enoughWeight iM_worthSum iM_firstRest iM_leastDrawn z_6885 b_iM_taped b_iM_size b_iM_end b_iM_failed b_iM_hasCourt b_iM_undos b_iM_images b_z_6886 b_iM_breaths b_iM_cutMany (by assumption) (by assumption) ⟨hi0_n_6887.1, (om_644b432c cx_6888 gc_6889)⟩ (om_5edc6190 cx_6891 gc_6892)) (cwV 1 hts (wd_V wd_506 wd_507 wd_508 wd_5 (wd_c wd_509)) rfl rfl rfl dv_yX7_weightsOf_1 ⟨Nat.le_of_ble_eq_true rfl, Nat.le_of_ble_eq_true rfl⟩) ⟨Pw.fb, recvX7 hK hP (q0 := 0) rfl, fun U hU hW => Pw.to hP hD hK hE hS hFc hU hW⟩ rfl rfl hl.1 rfl (lv_room (Nat.le_of_ble_eq_true rfl)) dX7_layScale_37 ⟨Nat.le_of_ble_eq_true rfl, Nat.le_of_ble_eq_true rfl⟩) hS (fun q _ h => hFc q h) hFc (fun r u t H locs ht hvm hw hB hz1 hk1 hS => ?_)
          have hru9 := hw.2
          have hw := hw.1
          obtain ⟨hP, hD⟩ := Bw.goA (ws' := [(oc7 oM iM_thrown rM_tape iM_taped iM_size iM_at iM_end iM_token iM_whole iM_nameSize iM_fault iM_place iM_trouble rM_letters iM_failed iM_hasCourt rM_r rM_fresh rM_told rM_read rM_st rM_undone rM_kept iM_undos iM_images rM_fresher iM_fresherSize z_6886 iM_night rM_heardRow rM_cutRow iM_breaths iM_cutMany iM_allBreaths rM_trial rM_words iM_fewestBreaths iM_orderMany iM_orderSum iM_leastOrder rM_often iM_setMany iM_someOf iM_allOf iM_allWeight iM_enoughWeight iM_worthSum iM_firstRest iM_leastDrawn), (arI rM_r kM_r 287 fM_r)]) hB rfl ht hFc rfl
          clear hz1 hk1 hvm ht hB
          obtain ⟨x_6894, rfl⟩ : ∃ z, z = r := ⟨_, rfl⟩
          have hG := hG.trans (lt_eq hru9.symm)
          have ux_6894 := hw.2
          refine lv_imul hx hb dX7_layScale_40 ?_
          refine lv_topi (fun x_6895 ex_6895 => ?_)
          have hG := hG.trans (lt_eq ex_6895)
          have ce9 := ct9.1 (by show (fM_r (9 + z_6885.toNatClampNeg)).toInt = 3; omega)
          have sm9 := sc_mul hi1_n_6887 (by omega) ex_6895 (by omega)
          have sn9 := sm9.2
          refine va_put (D := (dC, dI)) (ci := 7) (v := .int x_6895) (ty := .int) (C := RX7) (T := TX7) (N := 48) hx hb hts inX7 tyX7 tyX7_ok nmX7 hown hK hP hD hS 0 rfl rfl 26 (by decide) (hts _ wd_163) (fun _ h9 => h9) rfl (by decide +kernel) rfl rfl (Nat.le_of_ble_eq_true rfl) dX7_layScale_41 (fun H locs hP hD hS => ?_)
          obtain ⟨hP, hD⟩ := wl2 (ws' := [(oc7 oM iM_thrown rM_tape iM_taped iM_size iM_at iM_end iM_token iM_whole iM_nameSize iM_fault iM_place iM_trouble rM_letters iM_failed iM_hasCourt rM_r rM_fresh rM_told rM_read rM_st rM_undone rM_kept iM_undos iM_images rM_fresher iM_fresherSize x_6895 iM_night rM_heardRow rM_cutRow iM_breaths iM_cutMany iM_allBreaths rM_trial rM_words iM_fewestBreaths iM_orderMany iM_orderSum iM_leastOrder rM_often iM_setMany iM_someOf iM_allOf iM_allWeight iM_enoughWeight iM_worthSum iM_firstRest iM_leastDrawn), (arI rM_r kM_r 287 fM_r)]) hP hD rfl
          obtain ⟨x_6896, ex_6896⟩ : ∃ z : Int32, z = z_6885 + Int32.ofInt 1 := ⟨_, rfl⟩
          have hG := hG.trans (lt_eq ex_6896)
          have vx_6896 : x_6896.toInt = z_6885.toInt + 1 := ti_add (y := 1) ex_6896 rfl kc_1 (om_4e4fce7e hi0_n_6887.1) (om_656ddbff s_nodes.2 hi0_n_6887.2)
          refine lv_iinc (v := x_6896) (lv' := [(1, .int x_6896), (0, .ref oM)]) hx hb dX7_layScale_44 hl (k := 0) rfl ex_6896.symm (by decide) rfl (fun ls hl => ?_)
          refine lv_goto (tgt := 7) hx hb dX7_layScale_47 (by decide) ?_
          exact ih_n_6887 x_6896 x_6895 _ _ _ ⟨by omega, by omega⟩ ⟨(om_83b90de5 hi0_n_6887.1 vx_6896), (om_1ad1f819 cx_6888 gc_6889 vx_6896)⟩ (by rw [show x_6896.toNatClampNeg = z_6885.toNatClampNeg + 1 from (by have q_1 := ti_cl (x := x_6896) vx_6896 (om_9548a8fd hi0_n_6887.1); have q_2 := ti_cl (x := z_6885) rfl hi0_n_6887.1; omega)]; rw [ce9]; exact sm9.1) (ms_lt hm_n_6887 (om_dd4ae0bc vx_6896) (om_6d498008 cx_6888 gc_6889)) hG hP hD hS (lv_sub hl [0, 1] rfl)
  exact key_n_6887 ((((fM_r 1).toInt - (0 : Int32).toInt).toNat) + 1) 0 1 _ _ _ (by decide) ⟨(om_b1de7dbe kc_0), (om_2dfe280d s_nodes.1 kc_0)⟩ (by first | assumption | omega | decide | exact Or.inl ⟨rfl, kc_1⟩) (Nat.lt_add_one _) hG hP hD hS hl
set_option maxHeartbeats 4000000 in
set_option maxRecDepth 100000 in
theorem tX7_feed (l : Launch) (dC : Nat → ClassId) (dI : Nat → Nat → Nat) (sz : Nat) (oM : Nat) (iM_thrown : Int32) (rM_tape : Nat) (fM_tape : Nat → Int32) (kM_tape : ClassId) (iM_taped : Int32) (iM_size : Int32) (iM_at : Int32) (iM_end : Int32) (iM_token : Int32) (iM_whole : Int32) (iM_nameSize : Int32) (iM_fault : Int32) (iM_place : Int32) (iM_trouble : Int32) (rM_letters : Nat) (iM_failed : Int32) (iM_hasCourt : Int32) (rM_r : Nat) (rM_fresh : Nat) (rM_told : Nat) (rM_read : Nat) (rM_st : Nat) (rM_undone : Nat) (rM_kept : Nat) (iM_undos : Int32) (iM_images : Int32) (rM_fresher : Nat) (iM_fresherSize : Int32) (iM_scale : Int32) (iM_night : Int32) (rM_heardRow : Nat) (rM_cutRow : Nat) (iM_breaths : Int32) (iM_cutMany : Int32) (iM_allBreaths : Int32) (rM_trial : Nat) (rM_words : Nat) (iM_fewestBreaths : Int32) (iM_orderMany : Int32) (iM_orderSum : Int32) (iM_leastOrder : Int32) (rM_often : Nat) (iM_setMany : Int32) (iM_someOf : Int32) (iM_allOf : Int32) (iM_allWeight : Int64) (iM_enoughWeight : Int64) (iM_worthSum : Int64) (iM_firstRest : Int32) (iM_leastDrawn : Int32) (p0 : Int32) (p1 : Int32) (p2 : Int32) (p3 : Int32) (p4 : Int32) (b_iM_taped : 0 ≤ iM_taped.toInt ∧ iM_taped.toInt ≤ 900) (b_iM_size : 0 ≤ iM_size.toInt ∧ iM_size.toInt ≤ 900) (b_iM_end : 0 ≤ iM_end.toInt ∧ iM_end.toInt ≤ 900) (b_iM_failed : 0 ≤ iM_failed.toInt ∧ iM_failed.toInt ≤ 1) (b_iM_hasCourt : 0 ≤ iM_hasCourt.toInt ∧ iM_hasCourt.toInt ≤ 1) (b_iM_undos : 0 ≤ iM_undos.toInt ∧ iM_undos.toInt ≤ 16) (b_iM_images : 0 ≤ iM_images.toInt ∧ iM_images.toInt ≤ 3) (b_iM_scale : 1 ≤ iM_scale.toInt ∧ iM_scale.toInt ≤ 1296) (b_iM_breaths : 0 ≤ iM_breaths.toInt ∧ iM_breaths.toInt ≤ 399) (b_iM_cutMany : 0 ≤ iM_cutMany.toInt ∧ iM_cutMany.toInt ≤ 399)  : Met l yX7_feed (Cond.code yX7_feed cX7_feed 8 (some .int) :: wG) ({ frames := 0, cells := 0, slots := 0, locals := 0 }) (va_Pc [.ref oM, .int p0, .int p1, .int p2, .int p3, .int p4] (Pw dC dI sz [(oc7 oM iM_thrown rM_tape iM_taped iM_size iM_at iM_end iM_token iM_whole iM_nameSize iM_fault iM_place iM_trouble rM_letters iM_failed iM_hasCourt rM_r rM_fresh rM_told rM_read rM_st rM_undone rM_kept iM_undos iM_images rM_fresher iM_fresherSize iM_scale iM_night rM_heardRow rM_cutRow iM_breaths iM_cutMany iM_allBreaths rM_trial rM_words iM_fewestBreaths iM_orderMany iM_orderSum iM_leastOrder rM_often iM_setMany iM_someOf iM_allOf iM_allWeight iM_enoughWeight iM_worthSum iM_firstRest iM_leastDrawn), (arI rM_tape kM_tape 900 fM_tape)] [(kM_tape, .int)])) (va_Qi (fun (r : Int32) (u : Nat) => (True ∧ ((880 < iM_taped.toInt ∧ r.toInt = -1) ∨ (iM_taped.toInt ≤ 880 ∧ r.toInt = iM_taped.toInt + 20))) ∧ r = Int32.ofNat u) (fun (u : Nat) (t : State) => ∃ (niM_thrown : Int32) (niM_taped : Int32) (nfM_tape : Nat → Int32), (0 ≤ niM_thrown.toInt ∧ niM_thrown.toInt ≤ 0) ∧ (0 ≤ niM_taped.toInt ∧ niM_taped.toInt ≤ 900) ∧ ((880 < iM_taped.toInt ∧ niM_taped.toInt = iM_taped.toInt) ∨ (iM_taped.toInt ≤ 880 ∧ niM_taped.toInt = iM_taped.toInt + 20)) ∧ (PX7_feed fM_tape iM_taped p0 p1 p2 p3 p4 = (Int32.ofNat u, niM_thrown, niM_taped, nfM_tape)) ∧ Bw dC dI (va_A [(oc7 oM iM_thrown rM_tape iM_taped iM_size iM_at iM_end iM_token iM_whole iM_nameSize iM_fault iM_place iM_trouble rM_letters iM_failed iM_hasCourt rM_r rM_fresh rM_told rM_read rM_st rM_undone rM_kept iM_undos iM_images rM_fresher iM_fresherSize iM_scale iM_night rM_heardRow rM_cutRow iM_breaths iM_cutMany iM_allBreaths rM_trial rM_words iM_fewestBreaths iM_orderMany iM_orderSum iM_leastOrder rM_often iM_setMany iM_someOf iM_allOf iM_allWeight iM_enoughWeight iM_worthSum iM_firstRest iM_leastDrawn), (arI rM_tape kM_tape 900 fM_tape)] sz) [(oc7 oM niM_thrown rM_tape niM_taped iM_size iM_at iM_end iM_token iM_whole iM_nameSize iM_fault iM_place iM_trouble rM_letters iM_failed iM_hasCourt rM_r rM_fresh rM_told rM_read rM_st rM_undone rM_kept iM_undos iM_images rM_fresher iM_fresherSize iM_scale iM_night rM_heardRow rM_cutRow iM_breaths iM_cutMany iM_allBreaths rM_trial rM_words iM_fewestBreaths iM_orderMany iM_orderSum iM_leastOrder rM_often iM_setMany iM_someOf iM_allOf iM_allWeight iM_enoughWeight iM_worthSum iM_firstRest iM_leastDrawn), (arI rM_tape kM_tape 900 nfM_tape)] [(kM_tape, .int)] t) (va_A [(oc7 oM iM_thrown rM_tape iM_taped iM_size iM_at iM_end iM_token iM_whole iM_nameSize iM_fault iM_place iM_trouble rM_letters iM_failed iM_hasCourt rM_r rM_fresh rM_told rM_read rM_st rM_undone rM_kept iM_undos iM_images rM_fresher iM_fresherSize iM_scale iM_night rM_heardRow rM_cutRow iM_breaths iM_cutMany iM_allBreaths rM_trial rM_words iM_fewestBreaths iM_orderMany iM_orderSum iM_leastOrder rM_often iM_setMany iM_someOf iM_allOf iM_allWeight iM_enoughWeight iM_worthSum iM_firstRest iM_leastDrawn), (arI rM_tape kM_tape 900 fM_tape)] sz)) 0 0 (va_A [(oc7 oM iM_thrown rM_tape iM_taped iM_size iM_at iM_end iM_token iM_whole iM_nameSize iM_fault iM_place iM_trouble rM_letters iM_failed iM_hasCourt rM_r rM_fresh rM_told rM_read rM_st rM_undone rM_kept iM_undos iM_images rM_fresher iM_fresherSize iM_scale iM_night rM_heardRow rM_cutRow iM_breaths iM_cutMany iM_allBreaths rM_trial rM_words iM_fewestBreaths iM_orderMany iM_orderSum iM_leastOrder rM_often iM_setMany iM_someOf iM_allOf iM_allWeight iM_enoughWeight iM_worthSum iM_firstRest iM_leastDrawn), (arI rM_tape kM_tape 900 fM_tape)] sz) := by
  refine Met.ofW (cc := cX7_feed) (maxL := 8) (ret := (some .int)) pnX7 rfl ?_
  intro p e s m args below meth c s₁ B hml hv
  obtain ⟨rfl, hsz, hP, hK, hD0, hE⟩ := hv
  have hx := B.exec
  have hb := B.bytes
  have hr := B.returns
  have hts : ∀ w ∈ wG, w.before ([.ref oM, .int p0, .int p1, .int p2, .int p3, .int p4] : List Value).toArray s = true := fun w h => atoms_spec (ws := Cond.code yX7_feed cX7_feed 8 (some .int) :: wG) B.pre w (List.mem_cons_of_mem _ h)
  have hown : s.vm.findClass RX7 = some m.cls := own_of B.named rfl
  have hlocks := B.notSynchronized
  subst hsz
  have hD := hD0.self (sz := s.heap.size)
  generalize hAe : va_A [(oc7 oM iM_thrown rM_tape iM_taped iM_size iM_at iM_end iM_token iM_whole iM_nameSize iM_fault iM_place iM_trouble rM_letters iM_failed iM_hasCourt rM_r rM_fresh rM_told rM_read rM_st rM_undone rM_kept iM_undos iM_images rM_fresher iM_fresherSize iM_scale iM_night rM_heardRow rM_cutRow iM_breaths iM_cutMany iM_allBreaths rM_trial rM_words iM_fewestBreaths iM_orderMany iM_orderSum iM_leastOrder rM_often iM_setMany iM_someOf iM_allOf iM_allWeight iM_enoughWeight iM_worthSum iM_firstRest iM_leastDrawn), (arI rM_tape kM_tape 900 fM_tape)] s.heap.size = A at hD hE ⊢
  have hA : ∀ q : Nat, s.heap.size ≤ q → A q := fun q h => by rw [← hAe]; exact Or.inr h
  have hS : va_S A s.heap s.heap [] := va_S.rf
  have hl := lv_entry ([.ref oM, .int p0, .int p1, .int p2, .int p3, .int p4]) (n := 8) (Nat.le_of_ble_eq_true rfl)
  rw [lg_entry_eq]
  generalize (lg_sl ([.ref oM, .int p0, .int p1, .int p2, .int p3, .int p4]) ++ List.replicate (8 - (lg_sl ([.ref oM, .int p0, .int p1, .int p2, .int p3, .int p4])).length) Slot.unset).toArray = ls at hl ⊢
  have hl : lv_has ls 8 [(0, .ref oM), (1, .int p0), (2, .int p1), (3, .int p2), (4, .int p3), (5, .int p4)] := hl
  have hG := PX7_feed_eq fM_tape iM_taped p0 p1 p2 p3 p4
  refine lv_aload_n hx hb dX7_feed_0 rfl (lv_at hl 0 rfl) ?_
  refine lv_iconst (v := 0) hx hb dX7_feed_1 (by decide) ?_
  refine va_put (D := (dC, dI)) (ci := 7) (v := .int 0) (ty := .int) (C := RX7) (T := TX7) (N := 48) hx hb hts inX7 tyX7 tyX7_ok nmX7 hown hK hP hD hS 0 rfl rfl 0 (by decide) (hts _ wd_184) (fun _ h9 => h9) rfl (by decide +kernel) rfl rfl (Nat.le_of_ble_eq_true rfl) dX7_feed_2 (fun H locs hP hD hS => ?_)
  obtain ⟨hP, hD⟩ := wl2 (ws' := [(oc7 oM 0 rM_tape iM_taped iM_size iM_at iM_end iM_token iM_whole iM_nameSize iM_fault iM_place iM_trouble rM_letters iM_failed iM_hasCourt rM_r rM_fresh rM_told rM_read rM_st rM_undone rM_kept iM_undos iM_images rM_fresher iM_fresherSize iM_scale iM_night rM_heardRow rM_cutRow iM_breaths iM_cutMany iM_allBreaths rM_trial rM_words iM_fewestBreaths iM_orderMany iM_orderSum iM_leastOrder rM_often iM_setMany iM_someOf iM_allOf iM_allWeight iM_enoughWeight iM_worthSum iM_firstRest iM_leastDrawn), (arI rM_tape kM_tape 900 fM_tape)]) hP hD rfl
  refine lv_aload_n hx hb dX7_feed_5 rfl (lv_at hl 0 rfl) ?_
  refine va_get (D := (dC, dI)) (ci := 7) (v := .int iM_taped) (C := RX7) (T := TX7) (N := 48) hx hb hts inX7 hown hK hP 0 rfl rfl 2 (by decide) (hts _ wd_185) (fun _ h9 => h9) rfl dX7_feed_6 ?_
  refine lv_bipush (v := 20) hx hb dX7_feed_9 (by decide) ?_
  refine lv_iadd hx hb dX7_feed_11 ?_
  refine lv_topi (fun x_6948 ex_6948 => ?_)
  have hG := hG.trans (lt_eq ex_6948)
  have vx_6948 : x_6948.toInt = iM_taped.toInt + 20 := ti_add ex_6948 rfl kc_20 (om_72690fb9 b_iM_taped.1) (om_1954cd07 b_iM_taped.2)
  refine lv_sipush (v := 900) hx hb dX7_feed_12 (by decide) ?_
  refine lv_icmp_le (tgt := 20) hx hb dX7_feed_15 (by decide) (fun c_6949 => ?_) (fun c_6949 => ?_)
  · skip
    have hG := hG.trans (if_pos c_6949)
    have gc_6949 := ti_le c_6949 vx_6948 kc_900
    refine lv_iconst (v := 0) hx hb dX7_feed_20 (by decide) ?_
    refine lv_istore (lv' := [(6, .int 0), (0, .ref oM), (1, .int p0), (2, .int p1), (3, .int p2), (4, .int p3), (5, .int p4)]) hx hb dX7_feed_21 hl (by decide) rfl (fun ls hl => ?_)
    have hl := lv_sub hl (l' := [(6, .int 0), (0, .ref oM), (1, .int p0), (2, .int p1), (3, .int p2), (4, .int p3), (5, .int p4)]) [0, 1, 2, 3, 4, 5, 6] rfl
    have key_n_6953 : ∀ (n_6953 : Nat) (z_6950 : Int32) (z_6951 : Int32) (f_6952 : Nat → Int32) (H : Heap) (locs : List Loc) (ls : Array Slot), (0 ≤ z_6951.toInt ∧ z_6951.toInt ≤ 900) → (0 ≤ z_6950.toInt ∧ z_6950.toInt ≤ 20) → (z_6951.toInt = iM_taped.toInt + z_6950.toInt) → (20 - z_6950.toInt).toNat < n_6953 → (PX7_feed fM_tape iM_taped p0 p1 p2 p3 p4 = HX7_feed_0 p0 p1 p2 p3 p4 n_6953 z_6950 z_6951 f_6952) → va_P (dC, dI) vwCl [(oc7 oM 0 rM_tape z_6951 iM_size iM_at iM_end iM_token iM_whole iM_nameSize iM_fault iM_place iM_trouble rM_letters iM_failed iM_hasCourt rM_r rM_fresh rM_told rM_read rM_st rM_undone rM_kept iM_undos iM_images rM_fresher iM_fresherSize iM_scale iM_night rM_heardRow rM_cutRow iM_breaths iM_cutMany iM_allBreaths rM_trial rM_words iM_fewestBreaths iM_orderMany iM_orderSum iM_leastOrder rM_often iM_setMany iM_someOf iM_allOf iM_allWeight iM_enoughWeight iM_worthSum iM_firstRest iM_leastDrawn), (arI rM_tape kM_tape 900 f_6952)] H → va_D A [(oc7 oM 0 rM_tape z_6951 iM_size iM_at iM_end iM_token iM_whole iM_nameSize iM_fault iM_place iM_trouble rM_letters iM_failed iM_hasCourt rM_r rM_fresh rM_told rM_read rM_st rM_undone rM_kept iM_undos iM_images rM_fresher iM_fresherSize iM_scale iM_night rM_heardRow rM_cutRow iM_breaths iM_cutMany iM_allBreaths rM_trial rM_words iM_fewestBreaths iM_orderMany iM_orderSum iM_leastOrder rM_often iM_setMany iM_someOf iM_allOf iM_allWeight iM_enoughWeight iM_worthSum iM_firstRest iM_leastDrawn), (arI rM_tape kM_tape 900 f_6952)] → va_S A s.heap H locs → lv_has ls 8 [(6, .int z_6950), (0, .ref oM), (1, .int p0), (2, .int p1), (3, .int p2), (4, .int p3), (5, .int p4)] → W p l e (headSpec (Cond.code yX7_feed cX7_feed 8 (some .int) :: wG) ({ frames := 0, cells := 0, slots := 0, locals := 0 })).room s m ([.ref oM, .int p0, .int p1, .int p2, .int p3, .int p4] : List Value).toArray below meth c H locs 0 0 (MQ below (va_Qi (fun (r : Int32) (u : Nat) => (True ∧ ((880 < iM_taped.toInt ∧ r.toInt = -1) ∨ (iM_taped.toInt ≤ 880 ∧ r.toInt = iM_taped.toInt + 20))) ∧ r = Int32.ofNat u) (fun (u : Nat) (t : State) => ∃ (niM_thrown : Int32) (niM_taped : Int32) (nfM_tape : Nat → Int32), (0 ≤ niM_thrown.toInt ∧ niM_thrown.toInt ≤ 0) ∧ (0 ≤ niM_taped.toInt ∧ niM_taped.toInt ≤ 900) ∧ ((880 < iM_taped.toInt ∧ niM_taped.toInt = iM_taped.toInt) ∨ (iM_taped.toInt ≤ 880 ∧ niM_taped.toInt = iM_taped.toInt + 20)) ∧ (PX7_feed fM_tape iM_taped p0 p1 p2 p3 p4 = (Int32.ofNat u, niM_thrown, niM_taped, nfM_tape)) ∧ Bw dC dI A [(oc7 oM niM_thrown rM_tape niM_taped iM_size iM_at iM_end iM_token iM_whole iM_nameSize iM_fault iM_place iM_trouble rM_letters iM_failed iM_hasCourt rM_r rM_fresh rM_told rM_read rM_st rM_undone rM_kept iM_undos iM_images rM_fresher iM_fresherSize iM_scale iM_night rM_heardRow rM_cutRow iM_breaths iM_cutMany iM_allBreaths rM_trial rM_words iM_fewestBreaths iM_orderMany iM_orderSum iM_leastOrder rM_often iM_setMany iM_someOf iM_allOf iM_allWeight iM_enoughWeight iM_worthSum iM_firstRest iM_leastDrawn), (arI rM_tape kM_tape 900 nfM_tape)] [(kM_tape, .int)] t) A) ([.ref oM, .int p0, .int p1, .int p2, .int p3, .int p4] : List Value).toArray s 0 0 A) (F0 m 23 ls []) := by
      intro n_6953
      induction n_6953 with
      | zero => intro z_6950 z_6951 f_6952 H locs ls b_z_6951 hi0_n_6953 hi1_n_6953 hm; exact absurd hm (Nat.not_lt_zero _)
      | succ n_6953 ih_n_6953 =>
        intro z_6950 z_6951 f_6952 H locs ls b_z_6951 hi0_n_6953 hi1_n_6953 hm_n_6953 hG hP hD hS hl
        have hG := hG.trans (HX7_feed_0_eq _ _ _ _ _ _ _ _ _)
        refine lv_iload hx hb dX7_feed_23 (lv_at hl 0 rfl) ?_
        refine lv_bipush (v := 20) hx hb dX7_feed_25 (by decide) ?_
        refine lv_icmp_ge (tgt := 120) hx hb dX7_feed_27 (by decide) (fun c_6954 => ?_) (fun c_6954 => ?_)
        · skip
          have hG := hG.trans (if_pos c_6954)
          have gc_6954 := ti_le c_6954 kc_20 rfl
          refine lv_aload_n hx hb dX7_feed_120 rfl (lv_at hl 1 rfl) ?_
          refine va_get (D := (dC, dI)) (ci := 7) (v := .int z_6951) (C := RX7) (T := TX7) (N := 48) hx hb hts inX7 hown hK hP 0 rfl rfl 2 (by decide) (hts _ wd_185) (fun _ h9 => h9) rfl dX7_feed_121 ?_
          exact wq_i hx hb hr (cI z_6951) ⟨⟨trivial, (by first | omega | assumption)⟩, (cI_of z_6951)⟩ (fun t ht hW => ⟨0, z_6951, f_6952, (by decide), b_z_6951, (by have q0 := kc_0; omega), (cI_tup hG), Bw.to hP hD hK ht hW⟩) hS dX7_feed_124 hlocks
        · skip
          have hG := hG.trans (if_neg c_6954)
          have gc_6954 := ti_nle c_6954 kc_20 rfl
          refine lv_iload hx hb dX7_feed_30 (lv_at hl 0 rfl) ?_
          refine lv_iconst (v := 4) hx hb dX7_feed_32 (by decide) ?_
          refine lv_icmp_ge (tgt := 40) hx hb dX7_feed_33 (by decide) (fun c_6955 => ?_) (fun c_6955 => ?_)
          · skip
            have hG := hG.trans (if_pos c_6955)
            have gc_6955 := ti_le c_6955 kc_4 rfl
            refine lv_iload hx hb dX7_feed_40 (lv_at hl 0 rfl) ?_
            refine lv_bipush (v := 8) hx hb dX7_feed_42 (by decide) ?_
            refine lv_icmp_ge (tgt := 51) hx hb dX7_feed_44 (by decide) (fun c_6956 => ?_) (fun c_6956 => ?_)
            · skip
              have hG := hG.trans (if_pos c_6956)
              have gc_6956 := ti_le c_6956 kc_8 rfl
              refine lv_iload hx hb dX7_feed_51 (lv_at hl 0 rfl) ?_
              refine lv_bipush (v := 12) hx hb dX7_feed_53 (by decide) ?_
              refine lv_icmp_ge (tgt := 62) hx hb dX7_feed_55 (by decide) (fun c_6957 => ?_) (fun c_6957 => ?_)
              · skip
                have hG := hG.trans (if_pos c_6957)
                have gc_6957 := ti_le c_6957 kc_12 rfl
                refine lv_iload hx hb dX7_feed_62 (lv_at hl 0 rfl) ?_
                refine lv_bipush (v := 16) hx hb dX7_feed_64 (by decide) ?_
                refine lv_icmp_ge (tgt := 74) hx hb dX7_feed_66 (by decide) (fun c_6958 => ?_) (fun c_6958 => ?_)
                · skip
                  have hG := hG.trans (if_pos c_6958)
                  have gc_6958 := ti_le c_6958 kc_16 rfl
                  refine lv_iload hx hb dX7_feed_74 (lv_at hl 6 rfl) ?_
                  refine lv_istore (lv' := [(7, .int p4), (6, .int z_6950), (0, .ref oM), (1, .int p0), (2, .int p1), (3, .int p2), (4, .int p3), (5, .int p4)]) hx hb dX7_feed_76 hl (by decide) rfl (fun ls hl => ?_)
                  refine lv_aload_n hx hb dX7_feed_78 rfl (lv_at hl 2 rfl) ?_
                  refine va_get (D := (dC, dI)) (ci := 7) (v := .ref rM_tape) (C := RX7) (T := TX7) (N := 48) hx hb hts inX7 hown hK hP 0 rfl rfl 1 (by decide) (hts _ wd_152) (fun _ h9 => h9) rfl dX7_feed_79 ?_
                  refine lv_aload_n hx hb dX7_feed_82 rfl (lv_at hl 2 rfl) ?_
                  refine va_get (D := (dC, dI)) (ci := 7) (v := .int z_6951) (C := RX7) (T := TX7) (N := 48) hx hb hts inX7 hown hK hP 0 rfl rfl 2 (by decide) (hts _ wd_185) (fun _ h9 => h9) rfl dX7_feed_83 ?_
                  refine lv_iload hx hb dX7_feed_86 (lv_at hl 0 rfl) ?_
                  refine lv_bipush (v := 24) hx hb dX7_feed_88 (by decide) ?_
                  refine lv_bipush (v := 8) hx hb dX7_feed_90 (by decide) ?_
                  refine lv_iload hx hb dX7_feed_92 (lv_at hl 1 rfl) ?_
                  refine lv_iconst (v := 4) hx hb dX7_feed_94 (by decide) ?_
                  refine lv_irem hx hb dX7_feed_95 (by decide) ?_
                  refine lv_topi (fun x_6959 ex_6959 => ?_)
                  have hG := hG.trans (lt_eq ex_6959)
                  have qx_6959 := ti_rem ex_6959 rfl kc_4 hi0_n_6953.1 (by decide)
                  have Qx_6959 := ti_remE ex_6959 rfl kc_4 hi0_n_6953.1 (by decide)
                  refine lv_imul hx hb dX7_feed_96 ?_
                  refine lv_topi (fun x_6960 ex_6960 => ?_)
                  have hG := hG.trans (lt_eq ex_6960)
                  have vx_6960 : x_6960.toInt = 8 * x_6959.toInt := ti_mul ex_6960 kc_8 rfl (om_894b99c2 qx_6959.1) (om_626b9a18 qx_6959.2.1)
                  refine lv_isub hx hb dX7_feed_97 ?_
                  refine lv_topi (fun x_6961 ex_6961 => ?_)
                  have hG := hG.trans (lt_eq ex_6961)
                  have vx_6961 : x_6961.toInt = (-8) * x_6959.toInt + 24 := om_152fbd22 (ti_sub ex_6961 kc_24 vx_6960 (om_aa692474 qx_6959.2.1) (om_bd3e8f22 qx_6959.1))
                  refine lv_ishr hx hb dX7_feed_98 ?_
                  refine lv_topi (fun x_6962 ex_6962 => ?_)
                  have hG := hG.trans (lt_eq ex_6962)
                  refine lv_sipush (v := 255) hx hb dX7_feed_99 (by decide) ?_
                  refine lv_iand hx hb dX7_feed_102 ?_
                  refine lv_topi (fun x_6963 ex_6963 => ?_)
                  have hG := hG.trans (lt_eq ex_6963)
                  refine va_iast hx hb hK hP hD hS 1 0 rfl rfl (ti_in rfl b_z_6951.1 (om_53efa0b0 gc_6949 hi1_n_6953 gc_6954)) dX7_feed_103 (fun H locs hP hD hS => ?_)
                  obtain ⟨f_6965, ef_6965⟩ : ∃ g : Nat → Int32, g = upd f_6952 z_6951.toNatClampNeg x_6963 := ⟨_, rfl⟩
                  rw [← ef_6965] at hP hD
                  have hG := hG.trans (lt_eq ef_6965)
                  obtain ⟨hP, hD⟩ := wl2 (ws' := [(oc7 oM 0 rM_tape z_6951 iM_size iM_at iM_end iM_token iM_whole iM_nameSize iM_fault iM_place iM_trouble rM_letters iM_failed iM_hasCourt rM_r rM_fresh rM_told rM_read rM_st rM_undone rM_kept iM_undos iM_images rM_fresher iM_fresherSize iM_scale iM_night rM_heardRow rM_cutRow iM_breaths iM_cutMany iM_allBreaths rM_trial rM_words iM_fewestBreaths iM_orderMany iM_orderSum iM_leastOrder rM_often iM_setMany iM_someOf iM_allOf iM_allWeight iM_enoughWeight iM_worthSum iM_firstRest iM_leastDrawn), (arI rM_tape kM_tape 900 f_6965)]) hP hD rfl
                  refine lv_aload_n hx hb dX7_feed_104 rfl (lv_at hl 2 rfl) ?_
                  refine lv_dup hx hb dX7_feed_105 rfl ?_
                  refine va_get (D := (dC, dI)) (ci := 7) (v := .int z_6951) (C := RX7) (T := TX7) (N := 48) hx hb hts inX7 hown hK hP 0 rfl rfl 2 (by decide) (hts _ wd_185) (fun _ h9 => h9) rfl dX7_feed_106 ?_
                  refine lv_iconst (v := 1) hx hb dX7_feed_109 (by decide) ?_
                  refine lv_iadd hx hb dX7_feed_110 ?_
                  refine lv_topi (fun x_6966 ex_6966 => ?_)
                  have hG := hG.trans (lt_eq ex_6966)
                  have vx_6966 : x_6966.toInt = z_6951.toInt + 1 := ti_add ex_6966 rfl kc_1 (om_4e4fce7e b_z_6951.1) (om_a4907767 b_z_6951.2)
                  refine va_put (D := (dC, dI)) (ci := 7) (v := .int x_6966) (ty := .int) (C := RX7) (T := TX7) (N := 48) hx hb hts inX7 tyX7 tyX7_ok nmX7 hown hK hP hD hS 0 rfl rfl 2 (by decide) (hts _ wd_185) (fun _ h9 => h9) rfl (by decide +kernel) rfl rfl (Nat.le_of_ble_eq_true rfl) dX7_feed_111 (fun H locs hP hD hS => ?_)
                  obtain ⟨hP, hD⟩ := wl2 (ws' := [(oc7 oM 0 rM_tape x_6966 iM_size iM_at iM_end iM_token iM_whole iM_nameSize iM_fault iM_place iM_trouble rM_letters iM_failed iM_hasCourt rM_r rM_fresh rM_told rM_read rM_st rM_undone rM_kept iM_undos iM_images rM_fresher iM_fresherSize iM_scale iM_night rM_heardRow rM_cutRow iM_breaths iM_cutMany iM_allBreaths rM_trial rM_words iM_fewestBreaths iM_orderMany iM_orderSum iM_leastOrder rM_often iM_setMany iM_someOf iM_allOf iM_allWeight iM_enoughWeight iM_worthSum iM_firstRest iM_leastDrawn), (arI rM_tape kM_tape 900 f_6965)]) hP hD rfl
                  obtain ⟨x_6967, ex_6967⟩ : ∃ z : Int32, z = z_6950 + Int32.ofInt 1 := ⟨_, rfl⟩
                  have hG := hG.trans (lt_eq ex_6967)
                  have vx_6967 : x_6967.toInt = z_6950.toInt + 1 := ti_add (y := 1) ex_6967 rfl kc_1 (om_4e4fce7e hi0_n_6953.1) (om_575634be hi0_n_6953.2)
                  refine lv_iinc (v := x_6967) (lv' := [(6, .int x_6967), (7, .int p4), (0, .ref oM), (1, .int p0), (2, .int p1), (3, .int p2), (4, .int p3), (5, .int p4)]) hx hb dX7_feed_114 hl (k := 1) rfl ex_6967.symm (by decide) rfl (fun ls hl => ?_)
                  refine lv_goto (tgt := 23) hx hb dX7_feed_117 (by decide) ?_
                  exact ih_n_6953 x_6967 x_6966 f_6965 _ _ _ ⟨(om_83b90de5 b_z_6951.1 vx_6966), (om_80749fdb gc_6949 hi1_n_6953 gc_6954 vx_6966)⟩ ⟨(om_83b90de5 hi0_n_6953.1 vx_6967), (om_63cf9d31 gc_6954 vx_6967)⟩ (om_14f5635e hi1_n_6953 vx_6966 vx_6967) (ms_lt hm_n_6953 (om_91c3f935 vx_6967) (om_49eecdc2 gc_6954)) hG hP hD hS (lv_sub hl [0, 2, 3, 4, 5, 6, 7] rfl)
                · skip
                  have hG := hG.trans (if_neg c_6958)
                  have gc_6958 := ti_nle c_6958 kc_16 rfl
                  refine lv_iload hx hb dX7_feed_69 (lv_at hl 5 rfl) ?_
                  refine lv_goto (tgt := 76) hx hb dX7_feed_71 (by decide) ?_
                  refine lv_istore (lv' := [(7, .int p3), (6, .int z_6950), (0, .ref oM), (1, .int p0), (2, .int p1), (3, .int p2), (4, .int p3), (5, .int p4)]) hx hb dX7_feed_76 hl (by decide) rfl (fun ls hl => ?_)
                  refine lv_aload_n hx hb dX7_feed_78 rfl (lv_at hl 2 rfl) ?_
                  refine va_get (D := (dC, dI)) (ci := 7) (v := .ref rM_tape) (C := RX7) (T := TX7) (N := 48) hx hb hts inX7 hown hK hP 0 rfl rfl 1 (by decide) (hts _ wd_152) (fun _ h9 => h9) rfl dX7_feed_79 ?_
                  refine lv_aload_n hx hb dX7_feed_82 rfl (lv_at hl 2 rfl) ?_
                  refine va_get (D := (dC, dI)) (ci := 7) (v := .int z_6951) (C := RX7) (T := TX7) (N := 48) hx hb hts inX7 hown hK hP 0 rfl rfl 2 (by decide) (hts _ wd_185) (fun _ h9 => h9) rfl dX7_feed_83 ?_
                  refine lv_iload hx hb dX7_feed_86 (lv_at hl 0 rfl) ?_
                  refine lv_bipush (v := 24) hx hb dX7_feed_88 (by decide) ?_
                  refine lv_bipush (v := 8) hx hb dX7_feed_90 (by decide) ?_
                  refine lv_iload hx hb dX7_feed_92 (lv_at hl 1 rfl) ?_
                  refine lv_iconst (v := 4) hx hb dX7_feed_94 (by decide) ?_
                  refine lv_irem hx hb dX7_feed_95 (by decide) ?_
                  refine lv_topi (fun x_6968 ex_6968 => ?_)
                  have hG := hG.trans (lt_eq ex_6968)
                  have qx_6968 := ti_rem ex_6968 rfl kc_4 hi0_n_6953.1 (by decide)
                  have Qx_6968 := ti_remE ex_6968 rfl kc_4 hi0_n_6953.1 (by decide)
                  refine lv_imul hx hb dX7_feed_96 ?_
                  refine lv_topi (fun x_6969 ex_6969 => ?_)
                  have hG := hG.trans (lt_eq ex_6969)
                  have vx_6969 : x_6969.toInt = 8 * x_6968.toInt := ti_mul ex_6969 kc_8 rfl (om_894b99c2 qx_6968.1) (om_626b9a18 qx_6968.2.1)
                  refine lv_isub hx hb dX7_feed_97 ?_
                  refine lv_topi (fun x_6970 ex_6970 => ?_)
                  have hG := hG.trans (lt_eq ex_6970)
                  have vx_6970 : x_6970.toInt = (-8) * x_6968.toInt + 24 := om_152fbd22 (ti_sub ex_6970 kc_24 vx_6969 (om_aa692474 qx_6968.2.1) (om_bd3e8f22 qx_6968.1))
                  refine lv_ishr hx hb dX7_feed_98 ?_
                  refine lv_topi (fun x_6971 ex_6971 => ?_)
                  have hG := hG.trans (lt_eq ex_6971)
                  refine lv_sipush (v := 255) hx hb dX7_feed_99 (by decide) ?_
                  refine lv_iand hx hb dX7_feed_102 ?_
                  refine lv_topi (fun x_6972 ex_6972 => ?_)
                  have hG := hG.trans (lt_eq ex_6972)
                  refine va_iast hx hb hK hP hD hS 1 0 rfl rfl (ti_in rfl b_z_6951.1 (om_53efa0b0 gc_6949 hi1_n_6953 gc_6954)) dX7_feed_103 (fun H locs hP hD hS => ?_)
                  obtain ⟨f_6974, ef_6974⟩ : ∃ g : Nat → Int32, g = upd f_6952 z_6951.toNatClampNeg x_6972 := ⟨_, rfl⟩
                  rw [← ef_6974] at hP hD
                  have hG := hG.trans (lt_eq ef_6974)
                  obtain ⟨hP, hD⟩ := wl2 (ws' := [(oc7 oM 0 rM_tape z_6951 iM_size iM_at iM_end iM_token iM_whole iM_nameSize iM_fault iM_place iM_trouble rM_letters iM_failed iM_hasCourt rM_r rM_fresh rM_told rM_read rM_st rM_undone rM_kept iM_undos iM_images rM_fresher iM_fresherSize iM_scale iM_night rM_heardRow rM_cutRow iM_breaths iM_cutMany iM_allBreaths rM_trial rM_words iM_fewestBreaths iM_orderMany iM_orderSum iM_leastOrder rM_often iM_setMany iM_someOf iM_allOf iM_allWeight iM_enoughWeight iM_worthSum iM_firstRest iM_leastDrawn), (arI rM_tape kM_tape 900 f_6974)]) hP hD rfl
                  refine lv_aload_n hx hb dX7_feed_104 rfl (lv_at hl 2 rfl) ?_
                  refine lv_dup hx hb dX7_feed_105 rfl ?_
                  refine va_get (D := (dC, dI)) (ci := 7) (v := .int z_6951) (C := RX7) (T := TX7) (N := 48) hx hb hts inX7 hown hK hP 0 rfl rfl 2 (by decide) (hts _ wd_185) (fun _ h9 => h9) rfl dX7_feed_106 ?_
                  refine lv_iconst (v := 1) hx hb dX7_feed_109 (by decide) ?_
                  refine lv_iadd hx hb dX7_feed_110 ?_
                  refine lv_topi (fun x_6975 ex_6975 => ?_)
                  have hG := hG.trans (lt_eq ex_6975)
                  have vx_6975 : x_6975.toInt = z_6951.toInt + 1 := ti_add ex_6975 rfl kc_1 (om_4e4fce7e b_z_6951.1) (om_a4907767 b_z_6951.2)
                  refine va_put (D := (dC, dI)) (ci := 7) (v := .int x_6975) (ty := .int) (C := RX7) (T := TX7) (N := 48) hx hb hts inX7 tyX7 tyX7_ok nmX7 hown hK hP hD hS 0 rfl rfl 2 (by decide) (hts _ wd_185) (fun _ h9 => h9) rfl (by decide +kernel) rfl rfl (Nat.le_of_ble_eq_true rfl) dX7_feed_111 (fun H locs hP hD hS => ?_)
                  obtain ⟨hP, hD⟩ := wl2 (ws' := [(oc7 oM 0 rM_tape x_6975 iM_size iM_at iM_end iM_token iM_whole iM_nameSize iM_fault iM_place iM_trouble rM_letters iM_failed iM_hasCourt rM_r rM_fresh rM_told rM_read rM_st rM_undone rM_kept iM_undos iM_images rM_fresher iM_fresherSize iM_scale iM_night rM_heardRow rM_cutRow iM_breaths iM_cutMany iM_allBreaths rM_trial rM_words iM_fewestBreaths iM_orderMany iM_orderSum iM_leastOrder rM_often iM_setMany iM_someOf iM_allOf iM_allWeight iM_enoughWeight iM_worthSum iM_firstRest iM_leastDrawn), (arI rM_tape kM_tape 900 f_6974)]) hP hD rfl
                  obtain ⟨x_6976, ex_6976⟩ : ∃ z : Int32, z = z_6950 + Int32.ofInt 1 := ⟨_, rfl⟩
                  have hG := hG.trans (lt_eq ex_6976)
                  have vx_6976 : x_6976.toInt = z_6950.toInt + 1 := ti_add (y := 1) ex_6976 rfl kc_1 (om_4e4fce7e hi0_n_6953.1) (om_575634be hi0_n_6953.2)
                  refine lv_iinc (v := x_6976) (lv' := [(6, .int x_6976), (7, .int p3), (0, .ref oM), (1, .int p0), (2, .int p1), (3, .int p2), (4, .int p3), (5, .int p4)]) hx hb dX7_feed_114 hl (k := 1) rfl ex_6976.symm (by decide) rfl (fun ls hl => ?_)
                  refine lv_goto (tgt := 23) hx hb dX7_feed_117 (by decide) ?_
                  exact ih_n_6953 x_6976 x_6975 f_6974 _ _ _ ⟨(om_83b90de5 b_z_6951.1 vx_6975), (om_80749fdb gc_6949 hi1_n_6953 gc_6954 vx_6975)⟩ ⟨(om_83b90de5 hi0_n_6953.1 vx_6976), (om_63cf9d31 gc_6954 vx_6976)⟩ (om_14f5635e hi1_n_6953 vx_6975 vx_6976) (ms_lt hm_n_6953 (om_91c3f935 vx_6976) (om_49eecdc2 gc_6954)) hG hP hD hS (lv_sub hl [0, 2, 3, 4, 5, 6, 7] rfl)
              · skip
                have hG := hG.trans (if_neg c_6957)
                have gc_6957 := ti_nle c_6957 kc_12 rfl
                refine lv_iload_n hx hb dX7_feed_58 rfl (lv_at hl 4 rfl) ?_
                refine lv_goto (tgt := 76) hx hb dX7_feed_59 (by decide) ?_
                refine lv_istore (lv' := [(7, .int p2), (6, .int z_6950), (0, .ref oM), (1, .int p0), (2, .int p1), (3, .int p2), (4, .int p3), (5, .int p4)]) hx hb dX7_feed_76 hl (by decide) rfl (fun ls hl => ?_)
                refine lv_aload_n hx hb dX7_feed_78 rfl (lv_at hl 2 rfl) ?_
                refine va_get (D := (dC, dI)) (ci := 7) (v := .ref rM_tape) (C := RX7) (T := TX7) (N := 48) hx hb hts inX7 hown hK hP 0 rfl rfl 1 (by decide) (hts _ wd_152) (fun _ h9 => h9) rfl dX7_feed_79 ?_
                refine lv_aload_n hx hb dX7_feed_82 rfl (lv_at hl 2 rfl) ?_
                refine va_get (D := (dC, dI)) (ci := 7) (v := .int z_6951) (C := RX7) (T := TX7) (N := 48) hx hb hts inX7 hown hK hP 0 rfl rfl 2 (by decide) (hts _ wd_185) (fun _ h9 => h9) rfl dX7_feed_83 ?_
                refine lv_iload hx hb dX7_feed_86 (lv_at hl 0 rfl) ?_
                refine lv_bipush (v := 24) hx hb dX7_feed_88 (by decide) ?_
                refine lv_bipush (v := 8) hx hb dX7_feed_90 (by decide) ?_
                refine lv_iload hx hb dX7_feed_92 (lv_at hl 1 rfl) ?_
                refine lv_iconst (v := 4) hx hb dX7_feed_94 (by decide) ?_
                refine lv_irem hx hb dX7_feed_95 (by decide) ?_
                refine lv_topi (fun x_6977 ex_6977 => ?_)
                have hG := hG.trans (lt_eq ex_6977)
                have qx_6977 := ti_rem ex_6977 rfl kc_4 hi0_n_6953.1 (by decide)
                have Qx_6977 := ti_remE ex_6977 rfl kc_4 hi0_n_6953.1 (by decide)
                refine lv_imul hx hb dX7_feed_96 ?_
                refine lv_topi (fun x_6978 ex_6978 => ?_)
                have hG := hG.trans (lt_eq ex_6978)
                have vx_6978 : x_6978.toInt = 8 * x_6977.toInt := ti_mul ex_6978 kc_8 rfl (om_894b99c2 qx_6977.1) (om_626b9a18 qx_6977.2.1)
                refine lv_isub hx hb dX7_feed_97 ?_
                refine lv_topi (fun x_6979 ex_6979 => ?_)
                have hG := hG.trans (lt_eq ex_6979)
                have vx_6979 : x_6979.toInt = (-8) * x_6977.toInt + 24 := om_152fbd22 (ti_sub ex_6979 kc_24 vx_6978 (om_aa692474 qx_6977.2.1) (om_bd3e8f22 qx_6977.1))
                refine lv_ishr hx hb dX7_feed_98 ?_
                refine lv_topi (fun x_6980 ex_6980 => ?_)
                have hG := hG.trans (lt_eq ex_6980)
                refine lv_sipush (v := 255) hx hb dX7_feed_99 (by decide) ?_
                refine lv_iand hx hb dX7_feed_102 ?_
                refine lv_topi (fun x_6981 ex_6981 => ?_)
                have hG := hG.trans (lt_eq ex_6981)
                refine va_iast hx hb hK hP hD hS 1 0 rfl rfl (ti_in rfl b_z_6951.1 (om_53efa0b0 gc_6949 hi1_n_6953 gc_6954)) dX7_feed_103 (fun H locs hP hD hS => ?_)
                obtain ⟨f_6983, ef_6983⟩ : ∃ g : Nat → Int32, g = upd f_6952 z_6951.toNatClampNeg x_6981 := ⟨_, rfl⟩
                rw [← ef_6983] at hP hD
                have hG := hG.trans (lt_eq ef_6983)
                obtain ⟨hP, hD⟩ := wl2 (ws' := [(oc7 oM 0 rM_tape z_6951 iM_size iM_at iM_end iM_token iM_whole iM_nameSize iM_fault iM_place iM_trouble rM_letters iM_failed iM_hasCourt rM_r rM_fresh rM_told rM_read rM_st rM_undone rM_kept iM_undos iM_images rM_fresher iM_fresherSize iM_scale iM_night rM_heardRow rM_cutRow iM_breaths iM_cutMany iM_allBreaths rM_trial rM_words iM_fewestBreaths iM_orderMany iM_orderSum iM_leastOrder rM_often iM_setMany iM_someOf iM_allOf iM_allWeight iM_enoughWeight iM_worthSum iM_firstRest iM_leastDrawn), (arI rM_tape kM_tape 900 f_6983)]) hP hD rfl
                refine lv_aload_n hx hb dX7_feed_104 rfl (lv_at hl 2 rfl) ?_
                refine lv_dup hx hb dX7_feed_105 rfl ?_
                refine va_get (D := (dC, dI)) (ci := 7) (v := .int z_6951) (C := RX7) (T := TX7) (N := 48) hx hb hts inX7 hown hK hP 0 rfl rfl 2 (by decide) (hts _ wd_185) (fun _ h9 => h9) rfl dX7_feed_106 ?_
                refine lv_iconst (v := 1) hx hb dX7_feed_109 (by decide) ?_
                refine lv_iadd hx hb dX7_feed_110 ?_
                refine lv_topi (fun x_6984 ex_6984 => ?_)
                have hG := hG.trans (lt_eq ex_6984)
                have vx_6984 : x_6984.toInt = z_6951.toInt + 1 := ti_add ex_6984 rfl kc_1 (om_4e4fce7e b_z_6951.1) (om_a4907767 b_z_6951.2)
                refine va_put (D := (dC, dI)) (ci := 7) (v := .int x_6984) (ty := .int) (C := RX7) (T := TX7) (N := 48) hx hb hts inX7 tyX7 tyX7_ok nmX7 hown hK hP hD hS 0 rfl rfl 2 (by decide) (hts _ wd_185) (fun _ h9 => h9) rfl (by decide +kernel) rfl rfl (Nat.le_of_ble_eq_true rfl) dX7_feed_111 (fun H locs hP hD hS => ?_)
                obtain ⟨hP, hD⟩ := wl2 (ws' := [(oc7 oM 0 rM_tape x_6984 iM_size iM_at iM_end iM_token iM_whole iM_nameSize iM_fault iM_place iM_trouble rM_letters iM_failed iM_hasCourt rM_r rM_fresh rM_told rM_read rM_st rM_undone rM_kept iM_undos iM_images rM_fresher iM_fresherSize iM_scale iM_night rM_heardRow rM_cutRow iM_breaths iM_cutMany iM_allBreaths rM_trial rM_words iM_fewestBreaths iM_orderMany iM_orderSum iM_leastOrder rM_often iM_setMany iM_someOf iM_allOf iM_allWeight iM_enoughWeight iM_worthSum iM_firstRest iM_leastDrawn), (arI rM_tape kM_tape 900 f_6983)]) hP hD rfl
                obtain ⟨x_6985, ex_6985⟩ : ∃ z : Int32, z = z_6950 + Int32.ofInt 1 := ⟨_, rfl⟩
                have hG := hG.trans (lt_eq ex_6985)
                have vx_6985 : x_6985.toInt = z_6950.toInt + 1 := ti_add (y := 1) ex_6985 rfl kc_1 (om_4e4fce7e hi0_n_6953.1) (om_575634be hi0_n_6953.2)
                refine lv_iinc (v := x_6985) (lv' := [(6, .int x_6985), (7, .int p2), (0, .ref oM), (1, .int p0), (2, .int p1), (3, .int p2), (4, .int p3), (5, .int p4)]) hx hb dX7_feed_114 hl (k := 1) rfl ex_6985.symm (by decide) rfl (fun ls hl => ?_)
                refine lv_goto (tgt := 23) hx hb dX7_feed_117 (by decide) ?_
                exact ih_n_6953 x_6985 x_6984 f_6983 _ _ _ ⟨(om_83b90de5 b_z_6951.1 vx_6984), (om_80749fdb gc_6949 hi1_n_6953 gc_6954 vx_6984)⟩ ⟨(om_83b90de5 hi0_n_6953.1 vx_6985), (om_63cf9d31 gc_6954 vx_6985)⟩ (om_14f5635e hi1_n_6953 vx_6984 vx_6985) (ms_lt hm_n_6953 (om_91c3f935 vx_6985) (om_49eecdc2 gc_6954)) hG hP hD hS (lv_sub hl [0, 2, 3, 4, 5, 6, 7] rfl)
            · skip
              have hG := hG.trans (if_neg c_6956)
              have gc_6956 := ti_nle c_6956 kc_8 rfl
              refine lv_iload_n hx hb dX7_feed_47 rfl (lv_at hl 3 rfl) ?_
              refine lv_goto (tgt := 76) hx hb dX7_feed_48 (by decide) ?_
              refine lv_istore (lv' := [(7, .int p1), (6, .int z_6950), (0, .ref oM), (1, .int p0), (2, .int p1), (3, .int p2), (4, .int p3), (5, .int p4)]) hx hb dX7_feed_76 hl (by decide) rfl (fun ls hl => ?_)
              refine lv_aload_n hx hb dX7_feed_78 rfl (lv_at hl 2 rfl) ?_
              refine va_get (D := (dC, dI)) (ci := 7) (v := .ref rM_tape) (C := RX7) (T := TX7) (N := 48) hx hb hts inX7 hown hK hP 0 rfl rfl 1 (by decide) (hts _ wd_152) (fun _ h9 => h9) rfl dX7_feed_79 ?_
              refine lv_aload_n hx hb dX7_feed_82 rfl (lv_at hl 2 rfl) ?_
              refine va_get (D := (dC, dI)) (ci := 7) (v := .int z_6951) (C := RX7) (T := TX7) (N := 48) hx hb hts inX7 hown hK hP 0 rfl rfl 2 (by decide) (hts _ wd_185) (fun _ h9 => h9) rfl dX7_feed_83 ?_
              refine lv_iload hx hb dX7_feed_86 (lv_at hl 0 rfl) ?_
              refine lv_bipush (v := 24) hx hb dX7_feed_88 (by decide) ?_
              refine lv_bipush (v := 8) hx hb dX7_feed_90 (by decide) ?_
              refine lv_iload hx hb dX7_feed_92 (lv_at hl 1 rfl) ?_
              refine lv_iconst (v := 4) hx hb dX7_feed_94 (by decide) ?_
              refine lv_irem hx hb dX7_feed_95 (by decide) ?_
              refine lv_topi (fun x_6986 ex_6986 => ?_)
              have hG := hG.trans (lt_eq ex_6986)
              have qx_6986 := ti_rem ex_6986 rfl kc_4 hi0_n_6953.1 (by decide)
              have Qx_6986 := ti_remE ex_6986 rfl kc_4 hi0_n_6953.1 (by decide)
              refine lv_imul hx hb dX7_feed_96 ?_
              refine lv_topi (fun x_6987 ex_6987 => ?_)
              have hG := hG.trans (lt_eq ex_6987)
              have vx_6987 : x_6987.toInt = 8 * x_6986.toInt := ti_mul ex_6987 kc_8 rfl (om_894b99c2 qx_6986.1) (om_626b9a18 qx_6986.2.1)
              refine lv_isub hx hb dX7_feed_97 ?_
              refine lv_topi (fun x_6988 ex_6988 => ?_)
              have hG := hG.trans (lt_eq ex_6988)
              have vx_6988 : x_6988.toInt = (-8) * x_6986.toInt + 24 := om_152fbd22 (ti_sub ex_6988 kc_24 vx_6987 (om_aa692474 qx_6986.2.1) (om_bd3e8f22 qx_6986.1))
              refine lv_ishr hx hb dX7_feed_98 ?_
              refine lv_topi (fun x_6989 ex_6989 => ?_)
              have hG := hG.trans (lt_eq ex_6989)
              refine lv_sipush (v := 255) hx hb dX7_feed_99 (by decide) ?_
              refine lv_iand hx hb dX7_feed_102 ?_
              refine lv_topi (fun x_6990 ex_6990 => ?_)
              have hG := hG.trans (lt_eq ex_6990)
              refine va_iast hx hb hK hP hD hS 1 0 rfl rfl (ti_in rfl b_z_6951.1 (om_53efa0b0 gc_6949 hi1_n_6953 gc_6954)) dX7_feed_103 (fun H locs hP hD hS => ?_)
              obtain ⟨f_6992, ef_6992⟩ : ∃ g : Nat → Int32, g = upd f_6952 z_6951.toNatClampNeg x_6990 := ⟨_, rfl⟩
              rw [← ef_6992] at hP hD
              have hG := hG.trans (lt_eq ef_6992)
              obtain ⟨hP, hD⟩ := wl2 (ws' := [(oc7 oM 0 rM_tape z_6951 iM_size iM_at iM_end iM_token iM_whole iM_nameSize iM_fault iM_place iM_trouble rM_letters iM_failed iM_hasCourt rM_r rM_fresh rM_told rM_read rM_st rM_undone rM_kept iM_undos iM_images rM_fresher iM_fresherSize iM_scale iM_night rM_heardRow rM_cutRow iM_breaths iM_cutMany iM_allBreaths rM_trial rM_words iM_fewestBreaths iM_orderMany iM_orderSum iM_leastOrder rM_often iM_setMany iM_someOf iM_allOf iM_allWeight iM_enoughWeight iM_worthSum iM_firstRest iM_leastDrawn), (arI rM_tape kM_tape 900 f_6992)]) hP hD rfl
              refine lv_aload_n hx hb dX7_feed_104 rfl (lv_at hl 2 rfl) ?_
              refine lv_dup hx hb dX7_feed_105 rfl ?_
              refine va_get (D := (dC, dI)) (ci := 7) (v := .int z_6951) (C := RX7) (T := TX7) (N := 48) hx hb hts inX7 hown hK hP 0 rfl rfl 2 (by decide) (hts _ wd_185) (fun _ h9 => h9) rfl dX7_feed_106 ?_
              refine lv_iconst (v := 1) hx hb dX7_feed_109 (by decide) ?_
              refine lv_iadd hx hb dX7_feed_110 ?_
              refine lv_topi (fun x_6993 ex_6993 => ?_)
              have hG := hG.trans (lt_eq ex_6993)
              have vx_6993 : x_6993.toInt = z_6951.toInt + 1 := ti_add ex_6993 rfl kc_1 (om_4e4fce7e b_z_6951.1) (om_a4907767 b_z_6951.2)
              refine va_put (D := (dC, dI)) (ci := 7) (v := .int x_6993) (ty := .int) (C := RX7) (T := TX7) (N := 48) hx hb hts inX7 tyX7 tyX7_ok nmX7 hown hK hP hD hS 0 rfl rfl 2 (by decide) (hts _ wd_185) (fun _ h9 => h9) rfl (by decide +kernel) rfl rfl (Nat.le_of_ble_eq_true rfl) dX7_feed_111 (fun H locs hP hD hS => ?_)
              obtain ⟨hP, hD⟩ := wl2 (ws' := [(oc7 oM 0 rM_tape x_6993 iM_size iM_at iM_end iM_token iM_whole iM_nameSize iM_fault iM_place iM_trouble rM_letters iM_failed iM_hasCourt rM_r rM_fresh rM_told rM_read rM_st rM_undone rM_kept iM_undos iM_images rM_fresher iM_fresherSize iM_scale iM_night rM_heardRow rM_cutRow iM_breaths iM_cutMany iM_allBreaths rM_trial rM_words iM_fewestBreaths iM_orderMany iM_orderSum iM_leastOrder rM_often iM_setMany iM_someOf iM_allOf iM_allWeight iM_enoughWeight iM_worthSum iM_firstRest iM_leastDrawn), (arI rM_tape kM_tape 900 f_6992)]) hP hD rfl
              obtain ⟨x_6994, ex_6994⟩ : ∃ z : Int32, z = z_6950 + Int32.ofInt 1 := ⟨_, rfl⟩
              have hG := hG.trans (lt_eq ex_6994)
              have vx_6994 : x_6994.toInt = z_6950.toInt + 1 := ti_add (y := 1) ex_6994 rfl kc_1 (om_4e4fce7e hi0_n_6953.1) (om_575634be hi0_n_6953.2)
              refine lv_iinc (v := x_6994) (lv' := [(6, .int x_6994), (7, .int p1), (0, .ref oM), (1, .int p0), (2, .int p1), (3, .int p2), (4, .int p3), (5, .int p4)]) hx hb dX7_feed_114 hl (k := 1) rfl ex_6994.symm (by decide) rfl (fun ls hl => ?_)
              refine lv_goto (tgt := 23) hx hb dX7_feed_117 (by decide) ?_
              exact ih_n_6953 x_6994 x_6993 f_6992 _ _ _ ⟨(om_83b90de5 b_z_6951.1 vx_6993), (om_80749fdb gc_6949 hi1_n_6953 gc_6954 vx_6993)⟩ ⟨(om_83b90de5 hi0_n_6953.1 vx_6994), (om_63cf9d31 gc_6954 vx_6994)⟩ (om_14f5635e hi1_n_6953 vx_6993 vx_6994) (ms_lt hm_n_6953 (om_91c3f935 vx_6994) (om_49eecdc2 gc_6954)) hG hP hD hS (lv_sub hl [0, 2, 3, 4, 5, 6, 7] rfl)
          · skip
            have hG := hG.trans (if_neg c_6955)
            have gc_6955 := ti_nle c_6955 kc_4 rfl
            refine lv_iload_n hx hb dX7_feed_36 rfl (lv_at hl 2 rfl) ?_
            refine lv_goto (tgt := 76) hx hb dX7_feed_37 (by decide) ?_
            refine lv_istore (lv' := [(7, .int p0), (6, .int z_6950), (0, .ref oM), (1, .int p0), (2, .int p1), (3, .int p2), (4, .int p3), (5, .int p4)]) hx hb dX7_feed_76 hl (by decide) rfl (fun ls hl => ?_)
            refine lv_aload_n hx hb dX7_feed_78 rfl (lv_at hl 2 rfl) ?_
            refine va_get (D := (dC, dI)) (ci := 7) (v := .ref rM_tape) (C := RX7) (T := TX7) (N := 48) hx hb hts inX7 hown hK hP 0 rfl rfl 1 (by decide) (hts _ wd_152) (fun _ h9 => h9) rfl dX7_feed_79 ?_
            refine lv_aload_n hx hb dX7_feed_82 rfl (lv_at hl 2 rfl) ?_
            refine va_get (D := (dC, dI)) (ci := 7) (v := .int z_6951) (C := RX7) (T := TX7) (N := 48) hx hb hts inX7 hown hK hP 0 rfl rfl 2 (by decide) (hts _ wd_185) (fun _ h9 => h9) rfl dX7_feed_83 ?_
            refine lv_iload hx hb dX7_feed_86 (lv_at hl 0 rfl) ?_
            refine lv_bipush (v := 24) hx hb dX7_feed_88 (by decide) ?_
            refine lv_bipush (v := 8) hx hb dX7_feed_90 (by decide) ?_
            refine lv_iload hx hb dX7_feed_92 (lv_at hl 1 rfl) ?_
            refine lv_iconst (v := 4) hx hb dX7_feed_94 (by decide) ?_
            refine lv_irem hx hb dX7_feed_95 (by decide) ?_
            refine lv_topi (fun x_6995 ex_6995 => ?_)
            have hG := hG.trans (lt_eq ex_6995)
            have qx_6995 := ti_rem ex_6995 rfl kc_4 hi0_n_6953.1 (by decide)
            have Qx_6995 := ti_remE ex_6995 rfl kc_4 hi0_n_6953.1 (by decide)
            refine lv_imul hx hb dX7_feed_96 ?_
            refine lv_topi (fun x_6996 ex_6996 => ?_)
            have hG := hG.trans (lt_eq ex_6996)
            have vx_6996 : x_6996.toInt = 8 * x_6995.toInt := ti_mul ex_6996 kc_8 rfl (om_894b99c2 qx_6995.1) (om_626b9a18 qx_6995.2.1)
            refine lv_isub hx hb dX7_feed_97 ?_
            refine lv_topi (fun x_6997 ex_6997 => ?_)
            have hG := hG.trans (lt_eq ex_6997)
            have vx_6997 : x_6997.toInt = (-8) * x_6995.toInt + 24 := om_152fbd22 (ti_sub ex_6997 kc_24 vx_6996 (om_aa692474 qx_6995.2.1) (om_bd3e8f22 qx_6995.1))
            refine lv_ishr hx hb dX7_feed_98 ?_
            refine lv_topi (fun x_6998 ex_6998 => ?_)
            have hG := hG.trans (lt_eq ex_6998)
            refine lv_sipush (v := 255) hx hb dX7_feed_99 (by decide) ?_
            refine lv_iand hx hb dX7_feed_102 ?_
            refine lv_topi (fun x_6999 ex_6999 => ?_)
            have hG := hG.trans (lt_eq ex_6999)
            refine va_iast hx hb hK hP hD hS 1 0 rfl rfl (ti_in rfl b_z_6951.1 (om_53efa0b0 gc_6949 hi1_n_6953 gc_6954)) dX7_feed_103 (fun H locs hP hD hS => ?_)
            obtain ⟨f_7001, ef_7001⟩ : ∃ g : Nat → Int32, g = upd f_6952 z_6951.toNatClampNeg x_6999 := ⟨_, rfl⟩
            rw [← ef_7001] at hP hD
            have hG := hG.trans (lt_eq ef_7001)
            obtain ⟨hP, hD⟩ := wl2 (ws' := [(oc7 oM 0 rM_tape z_6951 iM_size iM_at iM_end iM_token iM_whole iM_nameSize iM_fault iM_place iM_trouble rM_letters iM_failed iM_hasCourt rM_r rM_fresh rM_told rM_read rM_st rM_undone rM_kept iM_undos iM_images rM_fresher iM_fresherSize iM_scale iM_night rM_heardRow rM_cutRow iM_breaths iM_cutMany iM_allBreaths rM_trial rM_words iM_fewestBreaths iM_orderMany iM_orderSum iM_leastOrder rM_often iM_setMany iM_someOf iM_allOf iM_allWeight iM_enoughWeight iM_worthSum iM_firstRest iM_leastDrawn), (arI rM_tape kM_tape 900 f_7001)]) hP hD rfl
            refine lv_aload_n hx hb dX7_feed_104 rfl (lv_at hl 2 rfl) ?_
            refine lv_dup hx hb dX7_feed_105 rfl ?_
            refine va_get (D := (dC, dI)) (ci := 7) (v := .int z_6951) (C := RX7) (T := TX7) (N := 48) hx hb hts inX7 hown hK hP 0 rfl rfl 2 (by decide) (hts _ wd_185) (fun _ h9 => h9) rfl dX7_feed_106 ?_
            refine lv_iconst (v := 1) hx hb dX7_feed_109 (by decide) ?_
            refine lv_iadd hx hb dX7_feed_110 ?_
            refine lv_topi (fun x_7002 ex_7002 => ?_)
            have hG := hG.trans (lt_eq ex_7002)
            have vx_7002 : x_7002.toInt = z_6951.toInt + 1 := ti_add ex_7002 rfl kc_1 (om_4e4fce7e b_z_6951.1) (om_a4907767 b_z_6951.2)
            refine va_put (D := (dC, dI)) (ci := 7) (v := .int x_7002) (ty := .int) (C := RX7) (T := TX7) (N := 48) hx hb hts inX7 tyX7 tyX7_ok nmX7 hown hK hP hD hS 0 rfl rfl 2 (by decide) (hts _ wd_185) (fun _ h9 => h9) rfl (by decide +kernel) rfl rfl (Nat.le_of_ble_eq_true rfl) dX7_feed_111 (fun H locs hP hD hS => ?_)
            obtain ⟨hP, hD⟩ := wl2 (ws' := [(oc7 oM 0 rM_tape x_7002 iM_size iM_at iM_end iM_token iM_whole iM_nameSize iM_fault iM_place iM_trouble rM_letters iM_failed iM_hasCourt rM_r rM_fresh rM_told rM_read rM_st rM_undone rM_kept iM_undos iM_images rM_fresher iM_fresherSize iM_scale iM_night rM_heardRow rM_cutRow iM_breaths iM_cutMany iM_allBreaths rM_trial rM_words iM_fewestBreaths iM_orderMany iM_orderSum iM_leastOrder rM_often iM_setMany iM_someOf iM_allOf iM_allWeight iM_enoughWeight iM_worthSum iM_firstRest iM_leastDrawn), (arI rM_tape kM_tape 900 f_7001)]) hP hD rfl
            obtain ⟨x_7003, ex_7003⟩ : ∃ z : Int32, z = z_6950 + Int32.ofInt 1 := ⟨_, rfl⟩
            have hG := hG.trans (lt_eq ex_7003)
            have vx_7003 : x_7003.toInt = z_6950.toInt + 1 := ti_add (y := 1) ex_7003 rfl kc_1 (om_4e4fce7e hi0_n_6953.1) (om_575634be hi0_n_6953.2)
            refine lv_iinc (v := x_7003) (lv' := [(6, .int x_7003), (7, .int p0), (0, .ref oM), (1, .int p0), (2, .int p1), (3, .int p2), (4, .int p3), (5, .int p4)]) hx hb dX7_feed_114 hl (k := 1) rfl ex_7003.symm (by decide) rfl (fun ls hl => ?_)
            refine lv_goto (tgt := 23) hx hb dX7_feed_117 (by decide) ?_
            exact ih_n_6953 x_7003 x_7002 f_7001 _ _ _ ⟨(om_83b90de5 b_z_6951.1 vx_7002), (om_80749fdb gc_6949 hi1_n_6953 gc_6954 vx_7002)⟩ ⟨(om_83b90de5 hi0_n_6953.1 vx_7003), (om_63cf9d31 gc_6954 vx_7003)⟩ (om_14f5635e hi1_n_6953 vx_7002 vx_7003) (ms_lt hm_n_6953 (om_91c3f935 vx_7003) (om_49eecdc2 gc_6954)) hG hP hD hS (lv_sub hl [0, 2, 3, 4, 5, 6, 7] rfl)
    exact key_n_6953 (((20 - (0 : Int32).toInt).toNat) + 1) 0 iM_taped fM_tape _ _ _ ⟨b_iM_taped.1, b_iM_taped.2⟩ ⟨(om_b1de7dbe kc_0), (om_347b8f70 kc_0)⟩ (om_ed03f020 kc_0) (Nat.lt_add_one _) hG hP hD hS hl
  · skip
    have hG := hG.trans (if_neg c_6949)
    have gc_6949 := ti_nle c_6949 vx_6948 kc_900
    refine lv_iconst (v := (-1)) hx hb dX7_feed_18 (by decide) ?_
    exact wq_i hx hb hr (cI (-1)) ⟨⟨trivial, (by have q := kc_m1; first | omega | assumption)⟩, (cI_of (-1))⟩ (fun t ht hW => ⟨0, iM_taped, fM_tape, (by decide), ⟨b_iM_taped.1, b_iM_taped.2⟩, (by have q0 := kc_0; omega), (cI_tup hG), Bw.to hP hD hK ht hW⟩) hS dX7_feed_19 hlocks
set_option maxHeartbeats 4000000 in
set_option maxRecDepth 100000 in
theorem tX7_best (l : Launch) (dC : Nat → ClassId) (dI : Nat → Nat → Nat) (sz : Nat) (oM : Nat) (iM_thrown : Int32) (rM_tape : Nat) (iM_taped : Int32) (iM_size : Int32) (iM_at : Int32) (iM_end : Int32) (iM_token : Int32) (iM_whole : Int32) (iM_nameSize : Int32) (iM_fault : Int32) (iM_place : Int32) (iM_trouble : Int32) (rM_letters : Nat) (iM_failed : Int32) (iM_hasCourt : Int32) (rM_r : Nat) (fM_r : Nat → Int32) (kM_r : ClassId) (rM_fresh : Nat) (rM_told : Nat) (fM_told : Nat → Int32) (kM_told : ClassId) (rM_read : Nat) (rM_st : Nat) (fM_st : Nat → Int32) (kM_st : ClassId) (rM_undone : Nat) (rM_kept : Nat) (iM_undos : Int32) (iM_images : Int32) (rM_fresher : Nat) (iM_fresherSize : Int32) (iM_scale : Int32) (iM_night : Int32) (rM_heardRow : Nat) (rM_cutRow : Nat) (iM_breaths : Int32) (iM_cutMany : Int32) (iM_allBreaths : Int32) (rM_trial : Nat) (rM_words : Nat) (iM_fewestBreaths : Int32) (iM_orderMany : Int32) (iM_orderSum : Int32) (iM_leastOrder : Int32) (rM_often : Nat) (iM_setMany : Int32) (iM_someOf : Int32) (iM_allOf : Int32) (iM_allWeight : Int64) (iM_enoughWeight : Int64) (iM_worthSum : Int64) (iM_firstRest : Int32) (iM_leastDrawn : Int32) (p0 : Int32) (b_iM_taped : 0 ≤ iM_taped.toInt ∧ iM_taped.toInt ≤ 900) (b_iM_size : 0 ≤ iM_size.toInt ∧ iM_size.toInt ≤ 900) (b_iM_end : 0 ≤ iM_end.toInt ∧ iM_end.toInt ≤ 900) (b_iM_failed : 0 ≤ iM_failed.toInt ∧ iM_failed.toInt ≤ 1) (b_iM_hasCourt : 0 ≤ iM_hasCourt.toInt ∧ iM_hasCourt.toInt ≤ 1) (b_iM_undos : 0 ≤ iM_undos.toInt ∧ iM_undos.toInt ≤ 16) (b_iM_images : 0 ≤ iM_images.toInt ∧ iM_images.toInt ≤ 3) (b_iM_scale : 1 ≤ iM_scale.toInt ∧ iM_scale.toInt ≤ 1296) (b_iM_breaths : 0 ≤ iM_breaths.toInt ∧ iM_breaths.toInt ≤ 399) (b_iM_cutMany : 0 ≤ iM_cutMany.toInt ∧ iM_cutMany.toInt ≤ 399) (r_R : ROk fM_r) (r_C : iM_hasCourt.toInt ≤ 0 ∨ (1 ≤ (fM_r 1).toInt ∧ 0 ≤ (fM_r 6).toInt ∧ (fM_r 6).toInt < (fM_r 1).toInt)) (r_st : RowOk fM_r fM_st) (r_told : RowOk fM_r fM_told) (r_wst : WorOk fM_st) (hnt : iM_night.toInt = -1) : Met l yX7_best (Cond.code yX7_best cX7_best 2 (some .int) :: wG) ({ frames := 22, cells := 0, slots := 0, locals := 586 }) (va_Pc [.ref oM, .int p0] (Pw dC dI sz [(oc7 oM iM_thrown rM_tape iM_taped iM_size iM_at iM_end iM_token iM_whole iM_nameSize iM_fault iM_place iM_trouble rM_letters iM_failed iM_hasCourt rM_r rM_fresh rM_told rM_read rM_st rM_undone rM_kept iM_undos iM_images rM_fresher iM_fresherSize iM_scale iM_night rM_heardRow rM_cutRow iM_breaths iM_cutMany iM_allBreaths rM_trial rM_words iM_fewestBreaths iM_orderMany iM_orderSum iM_leastOrder rM_often iM_setMany iM_someOf iM_allOf iM_allWeight iM_enoughWeight iM_worthSum iM_firstRest iM_leastDrawn), (arI rM_r kM_r 287 fM_r), (arI rM_told kM_told 90 fM_told), (arI rM_st kM_st 90 fM_st)] [(kM_r, .int), (kM_told, .int), (kM_st, .int)])) (va_Qi (fun (r : Int32) (u : Nat) => (True ∧ True) ∧ r = Int32.ofNat u) (fun (u : Nat) (t : State) => ∃ (niM_thrown : Int32) (niM_trouble : Int32), (PX7_best iM_hasCourt fM_r fM_told fM_st iM_scale iM_night p0 = (Int32.ofNat u, niM_thrown, niM_trouble)) ∧ Bw dC dI (va_A [(oc7 oM iM_thrown rM_tape iM_taped iM_size iM_at iM_end iM_token iM_whole iM_nameSize iM_fault iM_place iM_trouble rM_letters iM_failed iM_hasCourt rM_r rM_fresh rM_told rM_read rM_st rM_undone rM_kept iM_undos iM_images rM_fresher iM_fresherSize iM_scale iM_night rM_heardRow rM_cutRow iM_breaths iM_cutMany iM_allBreaths rM_trial rM_words iM_fewestBreaths iM_orderMany iM_orderSum iM_leastOrder rM_often iM_setMany iM_someOf iM_allOf iM_allWeight iM_enoughWeight iM_worthSum iM_firstRest iM_leastDrawn), (arI rM_r kM_r 287 fM_r), (arI rM_told kM_told 90 fM_told), (arI rM_st kM_st 90 fM_st)] sz) [(oc7 oM niM_thrown rM_tape iM_taped iM_size iM_at iM_end iM_token iM_whole iM_nameSize iM_fault iM_place niM_trouble rM_letters iM_failed iM_hasCourt rM_r rM_fresh rM_told rM_read rM_st rM_undone rM_kept iM_undos iM_images rM_fresher iM_fresherSize iM_scale iM_night rM_heardRow rM_cutRow iM_breaths iM_cutMany iM_allBreaths rM_trial rM_words iM_fewestBreaths iM_orderMany iM_orderSum iM_leastOrder rM_often iM_setMany iM_someOf iM_allOf iM_allWeight iM_enoughWeight iM_worthSum iM_firstRest iM_leastDrawn), (arI rM_r kM_r 287 fM_r), (arI rM_told kM_told 90 fM_told), (arI rM_st kM_st 90 fM_st)] [(kM_r, .int), (kM_told, .int), (kM_st, .int)] t) (va_A [(oc7 oM iM_thrown rM_tape iM_taped iM_size iM_at iM_end iM_token iM_whole iM_nameSize iM_fault iM_place iM_trouble rM_letters iM_failed iM_hasCourt rM_r rM_fresh rM_told rM_read rM_st rM_undone rM_kept iM_undos iM_images rM_fresher iM_fresherSize iM_scale iM_night rM_heardRow rM_cutRow iM_breaths iM_cutMany iM_allBreaths rM_trial rM_words iM_fewestBreaths iM_orderMany iM_orderSum iM_leastOrder rM_often iM_setMany iM_someOf iM_allOf iM_allWeight iM_enoughWeight iM_worthSum iM_firstRest iM_leastDrawn), (arI rM_r kM_r 287 fM_r), (arI rM_told kM_told 90 fM_told), (arI rM_st kM_st 90 fM_st)] sz)) 0 0 (va_A [(oc7 oM iM_thrown rM_tape iM_taped iM_size iM_at iM_end iM_token iM_whole iM_nameSize iM_fault iM_place iM_trouble rM_letters iM_failed iM_hasCourt rM_r rM_fresh rM_told rM_read rM_st rM_undone rM_kept iM_undos iM_images rM_fresher iM_fresherSize iM_scale iM_night rM_heardRow rM_cutRow iM_breaths iM_cutMany iM_allBreaths rM_trial rM_words iM_fewestBreaths iM_orderMany iM_orderSum iM_leastOrder rM_often iM_setMany iM_someOf iM_allOf iM_allWeight iM_enoughWeight iM_worthSum iM_firstRest iM_leastDrawn), (arI rM_r kM_r 287 fM_r), (arI rM_told kM_told 90 fM_told), (arI rM_st kM_st 90 fM_st)] sz) := by
  refine Met.ofW (cc := cX7_best) (maxL := 2) (ret := (some .int)) pnX7 rfl ?_
  intro p e s m args below meth c s₁ B hml hv
  obtain ⟨rfl, hsz, hP, hK, hD0, hE⟩ := hv
  have hx := B.exec
  have hb := B.bytes
  have hr := B.returns
  have hts : ∀ w ∈ wG, w.before ([.ref oM, .int p0] : List Value).toArray s = true := fun w h => atoms_spec (ws := Cond.code yX7_best cX7_best 2 (some .int) :: wG) B.pre w (List.mem_cons_of_mem _ h)
  have hown : s.vm.findClass RX7 = some m.cls := own_of B.named rfl
  have hlocks := B.notSynchronized
  subst hsz
  have hD := hD0.self (sz := s.heap.size)
  generalize hAe : va_A [(oc7 oM iM_thrown rM_tape iM_taped iM_size iM_at iM_end iM_token iM_whole iM_nameSize iM_fault iM_place iM_trouble rM_letters iM_failed iM_hasCourt rM_r rM_fresh rM_told rM_read rM_st rM_undone rM_kept iM_undos iM_images rM_fresher iM_fresherSize iM_scale iM_night rM_heardRow rM_cutRow iM_breaths iM_cutMany iM_allBreaths rM_trial rM_words iM_fewestBreaths iM_orderMany iM_orderSum iM_leastOrder rM_often iM_setMany iM_someOf iM_allOf iM_allWeight iM_enoughWeight iM_worthSum iM_firstRest iM_leastDrawn), (arI rM_r kM_r 287 fM_r), (arI rM_told kM_told 90 fM_told), (arI rM_st kM_st 90 fM_st)] s.heap.size = A at hD hE ⊢
  have hA : ∀ q : Nat, s.heap.size ≤ q → A q := fun q h => by rw [← hAe]; exact Or.inr h
  have hS : va_S A s.heap s.heap [] := va_S.rf
  have hl := lv_entry ([.ref oM, .int p0]) (n := 2) (Nat.le_of_ble_eq_true rfl)
  rw [lg_entry_eq]
  generalize (lg_sl ([.ref oM, .int p0]) ++ List.replicate (2 - (lg_sl ([.ref oM, .int p0])).length) Slot.unset).toArray = ls at hl ⊢
  have hl : lv_has ls 2 [(0, .ref oM), (1, .int p0)] := hl
  have hG := PX7_best_eq iM_hasCourt fM_r fM_told fM_st iM_scale iM_night p0
  have s_slips := r_R.slips
  have s_nodes := r_R.nodes
  have s_uns := r_R.uns
  refine lv_aload_n hx hb dX7_best_0 rfl (lv_at hl 0 rfl) ?_
  have hMs := ml_of hD [true, false, false, false] (wc := [(oc7 oM iM_thrown rM_tape iM_taped iM_size iM_at iM_end iM_token iM_whole iM_nameSize iM_fault iM_place iM_trouble rM_letters iM_failed iM_hasCourt rM_r rM_fresh rM_told rM_read rM_st rM_undone rM_kept iM_undos iM_images rM_fresher iM_fresherSize iM_scale iM_night rM_heardRow rM_cutRow iM_breaths iM_cutMany iM_allBreaths rM_trial rM_words iM_fewestBreaths iM_orderMany iM_orderSum iM_leastOrder rM_often iM_setMany iM_someOf iM_allOf iM_allWeight iM_enoughWeight iM_worthSum iM_firstRest iM_leastDrawn)]) rfl
  have hFc := va_freeM hD hS hA _ hMs
  refine va_callv (va_runV (As := []) (rest := []) ⟨hx, hb, hml, hown, hts⟩ (tX7_good l dC dI _ oM iM_thrown rM_tape iM_taped iM_size iM_at iM_end iM_token iM_whole iM_nameSize iM_fault iM_place iM_trouble rM_letters iM_failed iM_hasCourt rM_r rM_fresh rM_told rM_read rM_st rM_undone rM_kept iM_undos iM_images rM_fresher iM_fresherSize iM_scale iM_night rM_heardRow rM_cutRow iM_breaths iM_cutMany iM_allBreaths rM_trial rM_words iM_fewestBreaths iM_orderMany iM_orderSum iM_leastOrder rM_often iM_setMany iM_someOf iM_allOf iM_allWeight iM_enoughWeight iM_worthSum iM_firstRest iM_leastDrawn b_iM_taped b_iM_size b_iM_end b_iM_failed b_iM_hasCourt b_iM_undos b_iM_images b_iM_scale b_iM_breaths b_iM_cutMany) (cwV 0 hts (wd_V wd_388 wd_389 wd_390 wd_5 (wd_c wd_391)) rfl rfl rfl dv_yX7_good_0 ⟨Nat.le_of_ble_eq_true rfl, Nat.le_of_ble_eq_true rfl⟩) ⟨Pw.fb, recvX7 hK hP (q0 := 0) rfl, fun U hU hW => Pw.to (hP.ms _ hMs) (hD.ms _ hMs) (hK.ms [false, false, false] rfl) hE hS hFc hU hW⟩ rfl rfl hl.1 rfl (lv_room (Nat.le_of_ble_eq_true rfl)) dX7_best_1 ⟨Nat.le_of_ble_eq_true rfl, Nat.le_of_ble_eq_true rfl⟩) hS (fun q _ h => hFc q h) hFc (fun u t H locs ht hvm hw hB hz1 hk1 hS => ?_)
  refine ex_2_3 hB (fun x_7012 x_7013 b_x_7012 b_x_7013 e_x_7012_0 hB => ?_)
  obtain ⟨hP, hD⟩ := Bw.goN (ws' := [(oc7 oM x_7012 rM_tape iM_taped iM_size iM_at iM_end iM_token iM_whole iM_nameSize iM_fault iM_place x_7013 rM_letters iM_failed iM_hasCourt rM_r rM_fresh rM_told rM_read rM_st rM_undone rM_kept iM_undos iM_images rM_fresher iM_fresherSize iM_scale iM_night rM_heardRow rM_cutRow iM_breaths iM_cutMany iM_allBreaths rM_trial rM_words iM_fewestBreaths iM_orderMany iM_orderSum iM_leastOrder rM_often iM_setMany iM_someOf iM_allOf iM_allWeight iM_enoughWeight iM_worthSum iM_firstRest iM_leastDrawn), (arI rM_r kM_r 287 fM_r), (arI rM_told kM_told 90 fM_told), (arI rM_st kM_st 90 fM_st)]) hB rfl ht hP hD _ hMs hk1 hFc rfl
  clear hz1 hk1 hvm ht hB hMs
  have hG := hG.trans (un2_eq e_x_7012_0)
  refine lv_aload_n hx hb dX7_best_4 rfl (lv_at hl 0 rfl) ?_
  refine lv_iload_n hx hb dX7_best_5 rfl (lv_at hl 1 rfl) ?_
  have hMs := ml_of hD [true, true, false, false] (wc := [(oc7 oM x_7012 rM_tape iM_taped iM_size iM_at iM_end iM_token iM_whole iM_nameSize iM_fault iM_place x_7013 rM_letters iM_failed iM_hasCourt rM_r rM_fresh rM_told rM_read rM_st rM_undone rM_kept iM_undos iM_images rM_fresher iM_fresherSize iM_scale iM_night rM_heardRow rM_cutRow iM_breaths iM_cutMany iM_allBreaths rM_trial rM_words iM_fewestBreaths iM_orderMany iM_orderSum iM_leastOrder rM_often iM_setMany iM_someOf iM_allOf iM_allWeight iM_enoughWeight iM_worthSum iM_firstRest iM_leastDrawn), (arI rM_r kM_r 287 fM_r)]) rfl
  have hFc := va_freeM hD hS hA _ hMs
  refine va_calli (va_runV (As := [.int p0]) (rest := []) ⟨hx, hb, hml, hown, hts⟩ (tX7_isNode l dC dI _ oM x_7012 rM_tape iM_taped iM_size iM_at iM_end iM_token iM_whole iM_nameSize iM_fault iM_place x_7013 rM_letters iM_failed iM_hasCourt rM_r fM_r kM_r rM_fresh rM_told rM_read rM_st rM_undone rM_kept iM_undos iM_images rM_fresher iM_fresherSize iM_scale iM_night rM_heardRow rM_cutRow iM_breaths iM_cutMany iM_allBreaths rM_trial rM_words iM_fewestBreaths iM_orderMany iM_orderSum iM_leastOrder rM_often iM_setMany iM_someOf iM_allOf iM_allWeight iM_enoughWeight iM_worthSum iM_firstRest iM_leastDrawn p0 b_iM_taped b_iM_size b_iM_end b_iM_failed b_iM_hasCourt b_iM_undos b_iM_images b_iM_scale b_iM_breaths b_iM_cutMany (by assumption) (by assumption)) (cwV 1 hts (wd_V wd_544 wd_545 wd_546 wd_5 (wd_c wd_547)) rfl rfl rfl dv_yX7_isNode_1 ⟨Nat.le_of_ble_eq_true rfl, Nat.le_of_ble_eq_true rfl⟩) ⟨Pw.fb, recvX7 hK hP (q0 := 0) rfl, fun U hU hW => Pw.to (hP.ms _ hMs) (hD.ms _ hMs) (hK.ms [true, false, false] rfl) hE hS hFc hU hW⟩ rfl rfl hl.1 rfl (lv_room (Nat.le_of_ble_eq_true rfl)) dX7_best_6 ⟨Nat.le_of_ble_eq_true rfl, Nat.le_of_ble_eq_true rfl⟩) hS (fun q _ h => hFc q h) hFc (fun r u t H locs ht hvm hw hB hz1 hk1 hS => ?_)
  have hru9 := hw.2
  have hw := hw.1
  obtain ⟨hP, hD⟩ := Bw.goN (ws' := [(oc7 oM x_7012 rM_tape iM_taped iM_size iM_at iM_end iM_token iM_whole iM_nameSize iM_fault iM_place x_7013 rM_letters iM_failed iM_hasCourt rM_r rM_fresh rM_told rM_read rM_st rM_undone rM_kept iM_undos iM_images rM_fresher iM_fresherSize iM_scale iM_night rM_heardRow rM_cutRow iM_breaths iM_cutMany iM_allBreaths rM_trial rM_words iM_fewestBreaths iM_orderMany iM_orderSum iM_leastOrder rM_often iM_setMany iM_someOf iM_allOf iM_allWeight iM_enoughWeight iM_worthSum iM_firstRest iM_leastDrawn), (arI rM_r kM_r 287 fM_r), (arI rM_told kM_told 90 fM_told), (arI rM_st kM_st 90 fM_st)]) hB rfl ht hP hD _ hMs hk1 hFc rfl
  clear hz1 hk1 hvm ht hB hMs
  rcases hw.2 with ⟨rfl, hc_7014⟩ | ⟨rfl, hc_7014⟩
  · skip
    have hG := hG.trans (lt_eq hru9.symm)
    have hG := hG.trans (if_pos rfl)
    refine lv_if_eq (tgt := 20) hx hb dX7_best_9 (by decide) (fun c => absurd c (by decide)) (fun _ => ?_)
    refine lv_aload_n hx hb dX7_best_12 rfl (lv_at hl 0 rfl) ?_
    refine lv_iload_n hx hb dX7_best_13 rfl (lv_at hl 1 rfl) ?_
    have hFc := va_freeI hD hS hA
    refine va_calli (va_runV (As := [.int p0]) (rest := []) ⟨hx, hb, hml, hown, hts⟩ (tX7_bestOf l dC dI _ oM x_7012 rM_tape iM_taped iM_size iM_at iM_end iM_token iM_whole iM_nameSize iM_fault iM_place x_7013 rM_letters iM_failed iM_hasCourt rM_r fM_r kM_r rM_fresh rM_told fM_told kM_told rM_read rM_st fM_st kM_st rM_undone rM_kept iM_undos iM_images rM_fresher iM_fresherSize iM_scale iM_night rM_heardRow rM_cutRow iM_breaths iM_cutMany iM_allBreaths rM_trial rM_words iM_fewestBreaths iM_orderMany iM_orderSum iM_leastOrder rM_often iM_setMany iM_someOf iM_allOf iM_allWeight iM_enoughWeight iM_worthSum iM_firstRest iM_leastDrawn p0 b_iM_taped b_iM_size b_iM_end b_iM_failed b_iM_hasCourt b_iM_undos b_iM_images b_iM_scale b_iM_breaths b_iM_cutMany (by assumption) (by assumption) (by assumption) (by assumption) (by assumption) ⟨hc_7014.1, hc_7014.2.1⟩ hnt) (cwV 1 hts (wd_V wd_670 wd_671 wd_672 wd_5 (wd_c wd_673)) rfl rfl rfl dv_yX7_bestOf_1 ⟨Nat.le_of_ble_eq_true rfl, Nat.le_of_ble_eq_true rfl⟩) ⟨Pw.fb, recvX7 hK hP (q0 := 0) rfl, fun U hU hW => Pw.to hP hD hK hE hS hFc hU hW⟩ rfl rfl hl.1 rfl (lv_room (Nat.le_of_ble_eq_true rfl)) dX7_best_14 ⟨Nat.le_of_ble_eq_true rfl, Nat.le_of_ble_eq_true rfl⟩) hS (fun q _ h => hFc q h) hFc (fun r u t H locs ht hvm hw hB hz1 hk1 hS => ?_)
    have hru9 := hw.2
    have hw := hw.1
    obtain ⟨hP, hD⟩ := Bw.goA (ws' := [(oc7 oM x_7012 rM_tape iM_taped iM_size iM_at iM_end iM_token iM_whole iM_nameSize iM_fault iM_place x_7013 rM_letters iM_failed iM_hasCourt rM_r rM_fresh rM_told rM_read rM_st rM_undone rM_kept iM_undos iM_images rM_fresher iM_fresherSize iM_scale iM_night rM_heardRow rM_cutRow iM_breaths iM_cutMany iM_allBreaths rM_trial rM_words iM_fewestBreaths iM_orderMany iM_orderSum iM_leastOrder rM_often iM_setMany iM_someOf iM_allOf iM_allWeight iM_enoughWeight iM_worthSum iM_firstRest iM_leastDrawn), (arI rM_r kM_r 287 fM_r), (arI rM_told kM_told 90 fM_told), (arI rM_st kM_st 90 fM_st)]) hB rfl ht hFc rfl
    clear hz1 hk1 hvm ht hB
    obtain ⟨x_7017, rfl⟩ : ∃ z, z = r := ⟨_, rfl⟩
    have hG := hG.trans (lt_eq hru9.symm)
    have lx_7017 := hw.2
    have ux_7017 := hw.2
    refine lv_goto (tgt := 25) hx hb dX7_best_17 (by decide) ?_
    exact wq_i hx hb hr (cI x_7017) ⟨⟨trivial, trivial⟩, (cI_of x_7017)⟩ (fun t ht hW => ⟨x_7012, x_7013, (cI_tup hG), Bw.to hP hD hK ht hW⟩) hS dX7_best_25 hlocks
  · skip
    have hG := hG.trans (lt_eq hru9.symm)
    have hG := hG.trans (if_neg (by decide))
    refine lv_if_eq (tgt := 20) hx hb dX7_best_9 (by decide) (fun _ => ?_) (fun c => absurd c (by decide))
    refine lv_aload_n hx hb dX7_best_20 rfl (lv_at hl 0 rfl) ?_
    refine lv_iconst (v := 1) hx hb dX7_best_21 (by decide) ?_
    have hMs := ml_of hD [true, false, false, false] (wc := [(oc7 oM x_7012 rM_tape iM_taped iM_size iM_at iM_end iM_token iM_whole iM_nameSize iM_fault iM_place x_7013 rM_letters iM_failed iM_hasCourt rM_r rM_fresh rM_told rM_read rM_st rM_undone rM_kept iM_undos iM_images rM_fresher iM_fresherSize iM_scale iM_night rM_heardRow rM_cutRow iM_breaths iM_cutMany iM_allBreaths rM_trial rM_words iM_fewestBreaths iM_orderMany iM_orderSum iM_leastOrder rM_often iM_setMany iM_someOf iM_allOf iM_allWeight iM_enoughWeight iM_worthSum iM_firstRest iM_leastDrawn)]) rfl
    have hFc := va_freeM hD hS hA _ hMs
    refine va_calli (va_runV (As := [.int 1]) (rest := []) ⟨hx, hb, hml, hown, hts⟩ (tX7_no l dC dI _ oM x_7012 rM_tape iM_taped iM_size iM_at iM_end iM_token iM_whole iM_nameSize iM_fault iM_place x_7013 rM_letters iM_failed iM_hasCourt rM_r rM_fresh rM_told rM_read rM_st rM_undone rM_kept iM_undos iM_images rM_fresher iM_fresherSize iM_scale iM_night rM_heardRow rM_cutRow iM_breaths iM_cutMany iM_allBreaths rM_trial rM_words iM_fewestBreaths iM_orderMany iM_orderSum iM_leastOrder rM_often iM_setMany iM_someOf iM_allOf iM_allWeight iM_enoughWeight iM_worthSum iM_firstRest iM_leastDrawn 1 b_iM_taped b_iM_size b_iM_end b_iM_failed b_iM_hasCourt b_iM_undos b_iM_images b_iM_scale b_iM_breaths b_iM_cutMany) (cwV 1 hts (wd_V wd_396 wd_397 wd_398 wd_5 (wd_c wd_399)) rfl rfl rfl dv_yX7_no_1 ⟨Nat.le_of_ble_eq_true rfl, Nat.le_of_ble_eq_true rfl⟩) ⟨Pw.fb, recvX7 hK hP (q0 := 0) rfl, fun U hU hW => Pw.to (hP.ms _ hMs) (hD.ms _ hMs) (hK.ms [false, false, false] rfl) hE hS hFc hU hW⟩ rfl rfl hl.1 rfl (lv_room (Nat.le_of_ble_eq_true rfl)) dX7_best_22 ⟨Nat.le_of_ble_eq_true rfl, Nat.le_of_ble_eq_true rfl⟩) hS (fun q _ h => hFc q h) hFc (fun r u t H locs ht hvm hw hB hz1 hk1 hS => ?_)
    have hru9 := hw.2
    have hw := hw.1
    refine ex_1_1 hB (fun x_7019 e_x_7019_0 hB => ?_)
    obtain ⟨hP, hD⟩ := Bw.goN (ws' := [(oc7 oM x_7012 rM_tape iM_taped iM_size iM_at iM_end iM_token iM_whole iM_nameSize iM_fault iM_place x_7019 rM_letters iM_failed iM_hasCourt rM_r rM_fresh rM_told rM_read rM_st rM_undone rM_kept iM_undos iM_images rM_fresher iM_fresherSize iM_scale iM_night rM_heardRow rM_cutRow iM_breaths iM_cutMany iM_allBreaths rM_trial rM_words iM_fewestBreaths iM_orderMany iM_orderSum iM_leastOrder rM_often iM_setMany iM_someOf iM_allOf iM_allWeight iM_enoughWeight iM_worthSum iM_firstRest iM_leastDrawn), (arI rM_r kM_r 287 fM_r), (arI rM_told kM_told 90 fM_told), (arI rM_st kM_st 90 fM_st)]) hB rfl ht hP hD _ hMs hk1 hFc rfl
    clear hz1 hk1 hvm ht hB hMs
    rw [← hru9] at e_x_7019_0
    obtain ⟨x_7020, rfl⟩ : ∃ z, z = r := ⟨_, rfl⟩
    have hG := hG.trans (un2_eq e_x_7019_0)
    exact wq_i hx hb hr (cI x_7020) ⟨⟨trivial, trivial⟩, (cI_of x_7020)⟩ (fun t ht hW => ⟨x_7012, x_7019, (cI_tup hG), Bw.to hP hD hK ht hW⟩) hS dX7_best_25 hlocks
set_option maxHeartbeats 4000000 in
set_option maxRecDepth 100000 in
theorem tX7_line (l : Launch) (dC : Nat → ClassId) (dI : Nat → Nat → Nat) (sz : Nat) (oM : Nat) (iM_thrown : Int32) (rM_tape : Nat) (iM_taped : Int32) (iM_size : Int32) (iM_at : Int32) (iM_end : Int32) (iM_token : Int32) (iM_whole : Int32) (iM_nameSize : Int32) (iM_fault : Int32) (iM_place : Int32) (iM_trouble : Int32) (rM_letters : Nat) (iM_failed : Int32) (iM_hasCourt : Int32) (rM_r : Nat) (fM_r : Nat → Int32) (kM_r : ClassId) (rM_fresh : Nat) (rM_told : Nat) (fM_told : Nat → Int32) (kM_told : ClassId) (rM_read : Nat) (rM_st : Nat) (fM_st : Nat → Int32) (kM_st : ClassId) (rM_undone : Nat) (rM_kept : Nat) (iM_undos : Int32) (iM_images : Int32) (rM_fresher : Nat) (iM_fresherSize : Int32) (iM_scale : Int32) (iM_night : Int32) (rM_heardRow : Nat) (rM_cutRow : Nat) (iM_breaths : Int32) (iM_cutMany : Int32) (iM_allBreaths : Int32) (rM_trial : Nat) (rM_words : Nat) (iM_fewestBreaths : Int32) (iM_orderMany : Int32) (iM_orderSum : Int32) (iM_leastOrder : Int32) (rM_often : Nat) (iM_setMany : Int32) (iM_someOf : Int32) (iM_allOf : Int32) (iM_allWeight : Int64) (iM_enoughWeight : Int64) (iM_worthSum : Int64) (iM_firstRest : Int32) (iM_leastDrawn : Int32) (b_iM_taped : 0 ≤ iM_taped.toInt ∧ iM_taped.toInt ≤ 900) (b_iM_size : 0 ≤ iM_size.toInt ∧ iM_size.toInt ≤ 900) (b_iM_end : 0 ≤ iM_end.toInt ∧ iM_end.toInt ≤ 900) (b_iM_failed : 0 ≤ iM_failed.toInt ∧ iM_failed.toInt ≤ 1) (b_iM_hasCourt : 0 ≤ iM_hasCourt.toInt ∧ iM_hasCourt.toInt ≤ 1) (b_iM_undos : 0 ≤ iM_undos.toInt ∧ iM_undos.toInt ≤ 16) (b_iM_images : 0 ≤ iM_images.toInt ∧ iM_images.toInt ≤ 3) (b_iM_scale : 1 ≤ iM_scale.toInt ∧ iM_scale.toInt ≤ 1296) (b_iM_breaths : 0 ≤ iM_breaths.toInt ∧ iM_breaths.toInt ≤ 399) (b_iM_cutMany : 0 ≤ iM_cutMany.toInt ∧ iM_cutMany.toInt ≤ 399) (r_R : ROk fM_r) (r_C : iM_hasCourt.toInt ≤ 0 ∨ (1 ≤ (fM_r 1).toInt ∧ 0 ≤ (fM_r 6).toInt ∧ (fM_r 6).toInt < (fM_r 1).toInt)) (r_st : RowOk fM_r fM_st) (r_told : RowOk fM_r fM_told) (r_wst : WorOk fM_st) (hnt : iM_night.toInt = -1) : Met l yX7_line (Cond.code yX7_line cX7_line 3 (some .int) :: wG) ({ frames := 22, cells := 0, slots := 0, locals := 586 }) (va_Pc [.ref oM] (Pw dC dI sz [(oc7 oM iM_thrown rM_tape iM_taped iM_size iM_at iM_end iM_token iM_whole iM_nameSize iM_fault iM_place iM_trouble rM_letters iM_failed iM_hasCourt rM_r rM_fresh rM_told rM_read rM_st rM_undone rM_kept iM_undos iM_images rM_fresher iM_fresherSize iM_scale iM_night rM_heardRow rM_cutRow iM_breaths iM_cutMany iM_allBreaths rM_trial rM_words iM_fewestBreaths iM_orderMany iM_orderSum iM_leastOrder rM_often iM_setMany iM_someOf iM_allOf iM_allWeight iM_enoughWeight iM_worthSum iM_firstRest iM_leastDrawn), (arI rM_r kM_r 287 fM_r), (arI rM_told kM_told 90 fM_told), (arI rM_st kM_st 90 fM_st)] [(kM_r, .int), (kM_told, .int), (kM_st, .int)])) (va_Qi (fun (r : Int32) (u : Nat) => (True ∧ True) ∧ r = Int32.ofNat u) (fun (u : Nat) (t : State) => ∃ (niM_thrown : Int32) (niM_trouble : Int32), (PX7_line iM_hasCourt fM_r fM_told fM_st iM_scale iM_night = (Int32.ofNat u, niM_thrown, niM_trouble)) ∧ Bw dC dI (va_A [(oc7 oM iM_thrown rM_tape iM_taped iM_size iM_at iM_end iM_token iM_whole iM_nameSize iM_fault iM_place iM_trouble rM_letters iM_failed iM_hasCourt rM_r rM_fresh rM_told rM_read rM_st rM_undone rM_kept iM_undos iM_images rM_fresher iM_fresherSize iM_scale iM_night rM_heardRow rM_cutRow iM_breaths iM_cutMany iM_allBreaths rM_trial rM_words iM_fewestBreaths iM_orderMany iM_orderSum iM_leastOrder rM_often iM_setMany iM_someOf iM_allOf iM_allWeight iM_enoughWeight iM_worthSum iM_firstRest iM_leastDrawn), (arI rM_r kM_r 287 fM_r), (arI rM_told kM_told 90 fM_told), (arI rM_st kM_st 90 fM_st)] sz) [(oc7 oM niM_thrown rM_tape iM_taped iM_size iM_at iM_end iM_token iM_whole iM_nameSize iM_fault iM_place niM_trouble rM_letters iM_failed iM_hasCourt rM_r rM_fresh rM_told rM_read rM_st rM_undone rM_kept iM_undos iM_images rM_fresher iM_fresherSize iM_scale iM_night rM_heardRow rM_cutRow iM_breaths iM_cutMany iM_allBreaths rM_trial rM_words iM_fewestBreaths iM_orderMany iM_orderSum iM_leastOrder rM_often iM_setMany iM_someOf iM_allOf iM_allWeight iM_enoughWeight iM_worthSum iM_firstRest iM_leastDrawn), (arI rM_r kM_r 287 fM_r), (arI rM_told kM_told 90 fM_told), (arI rM_st kM_st 90 fM_st)] [(kM_r, .int), (kM_told, .int), (kM_st, .int)] t) (va_A [(oc7 oM iM_thrown rM_tape iM_taped iM_size iM_at iM_end iM_token iM_whole iM_nameSize iM_fault iM_place iM_trouble rM_letters iM_failed iM_hasCourt rM_r rM_fresh rM_told rM_read rM_st rM_undone rM_kept iM_undos iM_images rM_fresher iM_fresherSize iM_scale iM_night rM_heardRow rM_cutRow iM_breaths iM_cutMany iM_allBreaths rM_trial rM_words iM_fewestBreaths iM_orderMany iM_orderSum iM_leastOrder rM_often iM_setMany iM_someOf iM_allOf iM_allWeight iM_enoughWeight iM_worthSum iM_firstRest iM_leastDrawn), (arI rM_r kM_r 287 fM_r), (arI rM_told kM_told 90 fM_told), (arI rM_st kM_st 90 fM_st)] sz)) 0 0 (va_A [(oc7 oM iM_thrown rM_tape iM_taped iM_size iM_at iM_end iM_token iM_whole iM_nameSize iM_fault iM_place iM_trouble rM_letters iM_failed iM_hasCourt rM_r rM_fresh rM_told rM_read rM_st rM_undone rM_kept iM_undos iM_images rM_fresher iM_fresherSize iM_scale iM_night rM_heardRow rM_cutRow iM_breaths iM_cutMany iM_allBreaths rM_trial rM_words iM_fewestBreaths iM_orderMany iM_orderSum iM_leastOrder rM_often iM_setMany iM_someOf iM_allOf iM_allWeight iM_enoughWeight iM_worthSum iM_firstRest iM_leastDrawn), (arI rM_r kM_r 287 fM_r), (arI rM_told kM_told 90 fM_told), (arI rM_st kM_st 90 fM_st)] sz) := by
  refine Met.ofW (cc := cX7_line) (maxL := 3) (ret := (some .int)) pnX7 rfl ?_
  intro p e s m args below meth c s₁ B hml hv
  obtain ⟨rfl, hsz, hP, hK, hD0, hE⟩ := hv
  have hx := B.exec
  have hb := B.bytes
  have hr := B.returns
  have hts : ∀ w ∈ wG, w.before ([.ref oM] : List Value).toArray s = true := fun w h => atoms_spec (ws := Cond.code yX7_line cX7_line 3 (some .int) :: wG) B.pre w (List.mem_cons_of_mem _ h)
  have hown : s.vm.findClass RX7 = some m.cls := own_of B.named rfl
  have hlocks := B.notSynchronized
  subst hsz
  have hD := hD0.self (sz := s.heap.size)
  generalize hAe : va_A [(oc7 oM iM_thrown rM_tape iM_taped iM_size iM_at iM_end iM_token iM_whole iM_nameSize iM_fault iM_place iM_trouble rM_letters iM_failed iM_hasCourt rM_r rM_fresh rM_told rM_read rM_st rM_undone rM_kept iM_undos iM_images rM_fresher iM_fresherSize iM_scale iM_night rM_heardRow rM_cutRow iM_breaths iM_cutMany iM_allBreaths rM_trial rM_words iM_fewestBreaths iM_orderMany iM_orderSum iM_leastOrder rM_often iM_setMany iM_someOf iM_allOf iM_allWeight iM_enoughWeight iM_worthSum iM_firstRest iM_leastDrawn), (arI rM_r kM_r 287 fM_r), (arI rM_told kM_told 90 fM_told), (arI rM_st kM_st 90 fM_st)] s.heap.size = A at hD hE ⊢
  have hA : ∀ q : Nat, s.heap.size ≤ q → A q := fun q h => by rw [← hAe]; exact Or.inr h
  have hS : va_S A s.heap s.heap [] := va_S.rf
  have hl := lv_entry ([.ref oM]) (n := 3) (Nat.le_of_ble_eq_true rfl)
  rw [lg_entry_eq]
  generalize (lg_sl ([.ref oM]) ++ List.replicate (3 - (lg_sl ([.ref oM])).length) Slot.unset).toArray = ls at hl ⊢
  have hl : lv_has ls 3 [(0, .ref oM)] := hl
  have hG := PX7_line_eq iM_hasCourt fM_r fM_told fM_st iM_scale iM_night
  have s_slips := r_R.slips
  have s_nodes := r_R.nodes
  have s_uns := r_R.uns
  refine lv_aload_n hx hb dX7_line_0 rfl (lv_at hl 0 rfl) ?_
  have hMs := ml_of hD [true, false, false, false] (wc := [(oc7 oM iM_thrown rM_tape iM_taped iM_size iM_at iM_end iM_token iM_whole iM_nameSize iM_fault iM_place iM_trouble rM_letters iM_failed iM_hasCourt rM_r rM_fresh rM_told rM_read rM_st rM_undone rM_kept iM_undos iM_images rM_fresher iM_fresherSize iM_scale iM_night rM_heardRow rM_cutRow iM_breaths iM_cutMany iM_allBreaths rM_trial rM_words iM_fewestBreaths iM_orderMany iM_orderSum iM_leastOrder rM_often iM_setMany iM_someOf iM_allOf iM_allWeight iM_enoughWeight iM_worthSum iM_firstRest iM_leastDrawn)]) rfl
  have hFc := va_freeM hD hS hA _ hMs
  refine va_callv (va_runV (As := []) (rest := []) ⟨hx, hb, hml, hown, hts⟩ (tX7_good l dC dI _ oM iM_thrown rM_tape iM_taped iM_size iM_at iM_end iM_token iM_whole iM_nameSize iM_fault iM_place iM_trouble rM_letters iM_failed iM_hasCourt rM_r rM_fresh rM_told rM_read rM_st rM_undone rM_kept iM_undos iM_images rM_fresher iM_fresherSize iM_scale iM_night rM_heardRow rM_cutRow iM_breaths iM_cutMany iM_allBreaths rM_trial rM_words iM_fewestBreaths iM_orderMany iM_orderSum iM_leastOrder rM_often iM_setMany iM_someOf iM_allOf iM_allWeight iM_enoughWeight iM_worthSum iM_firstRest iM_leastDrawn b_iM_taped b_iM_size b_iM_end b_iM_failed b_iM_hasCourt b_iM_undos b_iM_images b_iM_scale b_iM_breaths b_iM_cutMany) (cwV 0 hts (wd_V wd_388 wd_389 wd_390 wd_5 (wd_c wd_391)) rfl rfl rfl dv_yX7_good_0 ⟨Nat.le_of_ble_eq_true rfl, Nat.le_of_ble_eq_true rfl⟩) ⟨Pw.fb, recvX7 hK hP (q0 := 0) rfl, fun U hU hW => Pw.to (hP.ms _ hMs) (hD.ms _ hMs) (hK.ms [false, false, false] rfl) hE hS hFc hU hW⟩ rfl rfl hl.1 rfl (lv_room (Nat.le_of_ble_eq_true rfl)) dX7_line_1 ⟨Nat.le_of_ble_eq_true rfl, Nat.le_of_ble_eq_true rfl⟩) hS (fun q _ h => hFc q h) hFc (fun u t H locs ht hvm hw hB hz1 hk1 hS => ?_)
  refine ex_2_3 hB (fun x_7050 x_7051 b_x_7050 b_x_7051 e_x_7050_0 hB => ?_)
  obtain ⟨hP, hD⟩ := Bw.goN (ws' := [(oc7 oM x_7050 rM_tape iM_taped iM_size iM_at iM_end iM_token iM_whole iM_nameSize iM_fault iM_place x_7051 rM_letters iM_failed iM_hasCourt rM_r rM_fresh rM_told rM_read rM_st rM_undone rM_kept iM_undos iM_images rM_fresher iM_fresherSize iM_scale iM_night rM_heardRow rM_cutRow iM_breaths iM_cutMany iM_allBreaths rM_trial rM_words iM_fewestBreaths iM_orderMany iM_orderSum iM_leastOrder rM_often iM_setMany iM_someOf iM_allOf iM_allWeight iM_enoughWeight iM_worthSum iM_firstRest iM_leastDrawn), (arI rM_r kM_r 287 fM_r), (arI rM_told kM_told 90 fM_told), (arI rM_st kM_st 90 fM_st)]) hB rfl ht hP hD _ hMs hk1 hFc rfl
  clear hz1 hk1 hvm ht hB hMs
  have hG := hG.trans (un2_eq e_x_7050_0)
  refine lv_aload_n hx hb dX7_line_4 rfl (lv_at hl 0 rfl) ?_
  rcases (id r_C) with r_C0 | r_C1
  · skip
    refine va_get (D := (dC, dI)) (ci := 7) (v := .int iM_hasCourt) (C := RX7) (T := TX7) (N := 48) hx hb hts inX7 hown hK hP 0 rfl rfl 14 (by decide) (hts _ wd_385) (fun _ h9 => h9) rfl dX7_line_5 ?_
    refine lv_if_ne (tgt := 17) hx hb dX7_line_8 (by decide) (fun c_7052 => ?_) (fun c_7052 => ?_)
    · skip
      have hG := hG.trans (if_neg c_7052)
      have gc_7052 := ti_ne c_7052 rfl kc_0
      replace gc_7052 : iM_hasCourt.toInt + 1 ≤ 0 := om_c7c1b1e9 gc_7052 r_C0
      exact ((om_5185113d b_iM_hasCourt.1 gc_7052)).elim
    · skip
      have hG := hG.trans (if_pos c_7052)
      have gc_7052 := ti_eq c_7052 rfl kc_0
      refine lv_aload_n hx hb dX7_line_11 rfl (lv_at hl 0 rfl) ?_
      refine lv_iconst (v := 1) hx hb dX7_line_12 (by decide) ?_
      have hMs := ml_of hD [true, false, false, false] (wc := [(oc7 oM x_7050 rM_tape iM_taped iM_size iM_at iM_end iM_token iM_whole iM_nameSize iM_fault iM_place x_7051 rM_letters iM_failed iM_hasCourt rM_r rM_fresh rM_told rM_read rM_st rM_undone rM_kept iM_undos iM_images rM_fresher iM_fresherSize iM_scale iM_night rM_heardRow rM_cutRow iM_breaths iM_cutMany iM_allBreaths rM_trial rM_words iM_fewestBreaths iM_orderMany iM_orderSum iM_leastOrder rM_often iM_setMany iM_someOf iM_allOf iM_allWeight iM_enoughWeight iM_worthSum iM_firstRest iM_leastDrawn)]) rfl
      have hFc := va_freeM hD hS hA _ hMs
      refine va_calli (va_runV (As := [.int 1]) (rest := []) ⟨hx, hb, hml, hown, hts⟩ (tX7_no l dC dI _ oM x_7050 rM_tape iM_taped iM_size iM_at iM_end iM_token iM_whole iM_nameSize iM_fault iM_place x_7051 rM_letters iM_failed iM_hasCourt rM_r rM_fresh rM_told rM_read rM_st rM_undone rM_kept iM_undos iM_images rM_fresher iM_fresherSize iM_scale iM_night rM_heardRow rM_cutRow iM_breaths iM_cutMany iM_allBreaths rM_trial rM_words iM_fewestBreaths iM_orderMany iM_orderSum iM_leastOrder rM_often iM_setMany iM_someOf iM_allOf iM_allWeight iM_enoughWeight iM_worthSum iM_firstRest iM_leastDrawn 1 b_iM_taped b_iM_size b_iM_end b_iM_failed b_iM_hasCourt b_iM_undos b_iM_images b_iM_scale b_iM_breaths b_iM_cutMany) (cwV 1 hts (wd_V wd_396 wd_397 wd_398 wd_5 (wd_c wd_399)) rfl rfl rfl dv_yX7_no_1 ⟨Nat.le_of_ble_eq_true rfl, Nat.le_of_ble_eq_true rfl⟩) ⟨Pw.fb, recvX7 hK hP (q0 := 0) rfl, fun U hU hW => Pw.to (hP.ms _ hMs) (hD.ms _ hMs) (hK.ms [false, false, false] rfl) hE hS hFc hU hW⟩ rfl rfl hl.1 rfl (lv_room (Nat.le_of_ble_eq_true rfl)) dX7_line_13 ⟨Nat.le_of_ble_eq_true rfl, Nat.le_of_ble_eq_true rfl⟩) hS (fun q _ h => hFc q h) hFc (fun r u t H locs ht hvm hw hB hz1 hk1 hS => ?_)
      have hru9 := hw.2
      have hw := hw.1
      refine ex_1_1 hB (fun x_7053 e_x_7053_0 hB => ?_)
      obtain ⟨hP, hD⟩ := Bw.goN (ws' := [(oc7 oM x_7050 rM_tape iM_taped iM_size iM_at iM_end iM_token iM_whole iM_nameSize iM_fault iM_place x_7053 rM_letters iM_failed iM_hasCourt rM_r rM_fresh rM_told rM_read rM_st rM_undone rM_kept iM_undos iM_images rM_fresher iM_fresherSize iM_scale iM_night rM_heardRow rM_cutRow iM_breaths iM_cutMany iM_allBreaths rM_trial rM_words iM_fewestBreaths iM_orderMany iM_orderSum iM_leastOrder rM_often iM_setMany iM_someOf iM_allOf iM_allWeight iM_enoughWeight iM_worthSum iM_firstRest iM_leastDrawn), (arI rM_r kM_r 287 fM_r), (arI rM_told kM_told 90 fM_told), (arI rM_st kM_st 90 fM_st)]) hB rfl ht hP hD _ hMs hk1 hFc rfl
      clear hz1 hk1 hvm ht hB hMs
      rw [← hru9] at e_x_7053_0
      obtain ⟨x_7054, rfl⟩ : ∃ z, z = r := ⟨_, rfl⟩
      have hG := hG.trans (un2_eq e_x_7053_0)
      exact wq_i hx hb hr (cI x_7054) ⟨⟨trivial, trivial⟩, (cI_of x_7054)⟩ (fun t ht hW => ⟨x_7050, x_7053, (cI_tup hG), Bw.to hP hD hK ht hW⟩) hS dX7_line_16 hlocks
  · skip
    refine va_get (D := (dC, dI)) (ci := 7) (v := .int iM_hasCourt) (C := RX7) (T := TX7) (N := 48) hx hb hts inX7 hown hK hP 0 rfl rfl 14 (by decide) (hts _ wd_385) (fun _ h9 => h9) rfl dX7_line_5 ?_
    refine lv_if_ne (tgt := 17) hx hb dX7_line_8 (by decide) (fun c_7055 => ?_) (fun c_7055 => ?_)
    · skip
      have hG := hG.trans (if_neg c_7055)
      have gc_7055 := ti_ne c_7055 rfl kc_0
      replace gc_7055 : (-1) * iM_hasCourt.toInt + 1 ≤ 0 := om_e3003f79 gc_7055 b_iM_hasCourt.1
      refine lv_iconst (v := 1) hx hb dX7_line_17 (by decide) ?_
      refine lv_istore_n (lv' := [(1, .int 1), (0, .ref oM)]) hx hb dX7_line_18 rfl hl (by decide) rfl (fun ls hl => ?_)
      refine lv_aload_n hx hb dX7_line_19 rfl (lv_at hl 1 rfl) ?_
      refine lv_aload_n hx hb dX7_line_20 rfl (lv_at hl 1 rfl) ?_
      refine va_get (D := (dC, dI)) (ci := 7) (v := .ref rM_r) (C := RX7) (T := TX7) (N := 48) hx hb hts inX7 hown hK hP 0 rfl rfl 15 (by decide) (hts _ wd_155) (fun _ h9 => h9) rfl dX7_line_21 ?_
      refine lv_bipush (v := 6) hx hb dX7_line_24 (by decide) ?_
      refine va_iald hx hb hK hP 1 0 rfl rfl (by unfold vp_in; decide) dX7_line_26 ?_
      refine lv_topi (fun x_7056 ex_7056 => ?_)
      have hG := hG.trans (lt_eq ex_7056)
      have cx_7056 : (fM_r 6).toInt = x_7056.toInt := congrArg Int32.toInt (show fM_r 6 = x_7056 from ex_7056.symm)
      have hFc := va_freeI hD hS hA
      refine va_calli (va_runV (As := [.int x_7056]) (rest := []) ⟨hx, hb, hml, hown, hts⟩ (tX7_bestOf l dC dI _ oM x_7050 rM_tape iM_taped iM_size iM_at iM_end iM_token iM_whole iM_nameSize iM_fault iM_place x_7051 rM_letters iM_failed iM_hasCourt rM_r fM_r kM_r rM_fresh rM_told fM_told kM_told rM_read rM_st fM_st kM_st rM_undone rM_kept iM_undos iM_images rM_fresher iM_fresherSize iM_scale iM_night rM_heardRow rM_cutRow iM_breaths iM_cutMany iM_allBreaths rM_trial rM_words iM_fewestBreaths iM_orderMany iM_orderSum iM_leastOrder rM_often iM_setMany iM_someOf iM_allOf iM_allWeight iM_enoughWeight iM_worthSum iM_firstRest iM_leastDrawn x_7056 b_iM_taped b_iM_size b_iM_end b_iM_failed b_iM_hasCourt b_iM_undos b_iM_images b_iM_scale b_iM_breaths b_iM_cutMany (by assumption) (by assumption) (by assumption) (by assumption) (by assumption) ⟨(om_6429e25c r_C1.2.1 cx_7056), (om_21cef2c6 r_C1.2.2 cx_7056)⟩ hnt) (cwV 1 hts (wd_V wd_670 wd_671 wd_672 wd_5 (wd_c wd_673)) rfl rfl rfl dv_yX7_bestOf_1 ⟨Nat.le_of_ble_eq_true rfl, Nat.le_of_ble_eq_true rfl⟩) ⟨Pw.fb, recvX7 hK hP (q0 := 0) rfl, fun U hU hW => Pw.to hP hD hK hE hS hFc hU hW⟩ rfl rfl hl.1 rfl (lv_room (Nat.le_of_ble_eq_true rfl)) dX7_line_27 ⟨Nat.le_of_ble_eq_true rfl, Nat.le_of_ble_eq_true rfl⟩) hS (fun q _ h => hFc q h) hFc (fun r u t H locs ht hvm hw hB hz1 hk1 hS => ?_)
      have hru9 := hw.2
      have hw := hw.1
      obtain ⟨hP, hD⟩ := Bw.goA (ws' := [(oc7 oM x_7050 rM_tape iM_taped iM_size iM_at iM_end iM_token iM_whole iM_nameSize iM_fault iM_place x_7051 rM_letters iM_failed iM_hasCourt rM_r rM_fresh rM_told rM_read rM_st rM_undone rM_kept iM_undos iM_images rM_fresher iM_fresherSize iM_scale iM_night rM_heardRow rM_cutRow iM_breaths iM_cutMany iM_allBreaths rM_trial rM_words iM_fewestBreaths iM_orderMany iM_orderSum iM_leastOrder rM_often iM_setMany iM_someOf iM_allOf iM_allWeight iM_enoughWeight iM_worthSum iM_firstRest iM_leastDrawn), (arI rM_r kM_r 287 fM_r), (arI rM_told kM_told 90 fM_told), (arI rM_st kM_st 90 fM_st)]) hB rfl ht hFc rfl
      clear hz1 hk1 hvm ht hB
      obtain ⟨x_7057, rfl⟩ : ∃ z, z = r := ⟨_, rfl⟩
      have hG := hG.trans (lt_eq hru9.symm)
      have lx_7057 := hw.2
      have ux_7057 := hw.2
      refine lv_istore_n (lv' := [(2, .int x_7057), (1, .int 1), (0, .ref oM)]) hx hb dX7_line_30 rfl hl (by decide) rfl (fun ls hl => ?_)
      have hl := lv_sub hl (l' := [(2, .int x_7057), (1, .int 1), (0, .ref oM)]) [0, 1, 2] rfl
      have key_n_7060 : ∀ (n_7060 : Nat) (z_7058 : Int32) (z_7059 : Int32) (H : Heap) (locs : List Loc) (ls : Array Slot), (-2 ≤ z_7058.toInt ∧ z_7058.toInt < (fM_r 1).toInt) → (z_7058.toInt + 3).toNat < n_7060 → (PX7_line iM_hasCourt fM_r fM_told fM_st iM_scale iM_night = HX7_line_0 fM_r fM_told fM_st iM_scale iM_night x_7050 x_7051 n_7060 z_7058 z_7059) → va_P (dC, dI) vwCl [(oc7 oM x_7050 rM_tape iM_taped iM_size iM_at iM_end iM_token iM_whole iM_nameSize iM_fault iM_place x_7051 rM_letters iM_failed iM_hasCourt rM_r rM_fresh rM_told rM_read rM_st rM_undone rM_kept iM_undos iM_images rM_fresher iM_fresherSize iM_scale iM_night rM_heardRow rM_cutRow iM_breaths iM_cutMany iM_allBreaths rM_trial rM_words iM_fewestBreaths iM_orderMany iM_orderSum iM_leastOrder rM_often iM_setMany iM_someOf iM_allOf iM_allWeight iM_enoughWeight iM_worthSum iM_firstRest iM_leastDrawn), (arI rM_r kM_r 287 fM_r), (arI rM_told kM_told 90 fM_told), (arI rM_st kM_st 90 fM_st)] H → va_D A [(oc7 oM x_7050 rM_tape iM_taped iM_size iM_at iM_end iM_token iM_whole iM_nameSize iM_fault iM_place x_7051 rM_letters iM_failed iM_hasCourt rM_r rM_fresh rM_told rM_read rM_st rM_undone rM_kept iM_undos iM_images rM_fresher iM_fresherSize iM_scale iM_night rM_heardRow rM_cutRow iM_breaths iM_cutMany iM_allBreaths rM_trial rM_words iM_fewestBreaths iM_orderMany iM_orderSum iM_leastOrder rM_often iM_setMany iM_someOf iM_allOf iM_allWeight iM_enoughWeight iM_worthSum iM_firstRest iM_leastDrawn), (arI rM_r kM_r 287 fM_r), (arI rM_told kM_told 90 fM_told), (arI rM_st kM_st 90 fM_st)] → va_S A s.heap H locs → lv_has ls 3 [(2, .int z_7058), (1, .int z_7059), (0, .ref oM)] → W p l e (headSpec (Cond.code yX7_line cX7_line 3 (some .int) :: wG) ({ frames := 22, cells := 0, slots := 0, locals := 586 })).room s m ([.ref oM] : List Value).toArray below meth c H locs 0 0 (MQ below (va_Qi (fun (r : Int32) (u : Nat) => (True ∧ True) ∧ r = Int32.ofNat u) (fun (u : Nat) (t : State) => ∃ (niM_thrown : Int32) (niM_trouble : Int32), (PX7_line iM_hasCourt fM_r fM_told fM_st iM_scale iM_night = (Int32.ofNat u, niM_thrown, niM_trouble)) ∧ Bw dC dI A [(oc7 oM niM_thrown rM_tape iM_taped iM_size iM_at iM_end iM_token iM_whole iM_nameSize iM_fault iM_place niM_trouble rM_letters iM_failed iM_hasCourt rM_r rM_fresh rM_told rM_read rM_st rM_undone rM_kept iM_undos iM_images rM_fresher iM_fresherSize iM_scale iM_night rM_heardRow rM_cutRow iM_breaths iM_cutMany iM_allBreaths rM_trial rM_words iM_fewestBreaths iM_orderMany iM_orderSum iM_leastOrder rM_often iM_setMany iM_someOf iM_allOf iM_allWeight iM_enoughWeight iM_worthSum iM_firstRest iM_leastDrawn), (arI rM_r kM_r 287 fM_r), (arI rM_told kM_told 90 fM_told), (arI rM_st kM_st 90 fM_st)] [(kM_r, .int), (kM_told, .int), (kM_st, .int)] t) A) ([.ref oM] : List Value).toArray s 0 0 A) (F0 m 31 ls []) := by
        intro n_7060
        induction n_7060 with
        | zero => intro z_7058 z_7059 H locs ls hi0_n_7060 hm; exact absurd hm (Nat.not_lt_zero _)
        | succ n_7060 ih_n_7060 =>
          intro z_7058 z_7059 H locs ls hi0_n_7060 hm_n_7060 hG hP hD hS hl
          have hG := hG.trans (HX7_line_0_eq _ _ _ _ _ _ _ _ _ _)
          refine lv_iload_n hx hb dX7_line_31 rfl (lv_at hl 0 rfl) ?_
          refine lv_if_lt (tgt := 47) hx hb dX7_line_32 (by decide) (fun c_7061 => ?_) (fun c_7061 => ?_)
          · skip
            have hG := hG.trans (if_pos c_7061)
            have gc_7061 := ti_lt c_7061 rfl kc_0
            refine lv_iload_n hx hb dX7_line_47 rfl (lv_at hl 1 rfl) ?_
            exact wq_i hx hb hr (cI z_7059) ⟨⟨trivial, trivial⟩, (cI_of z_7059)⟩ (fun t ht hW => ⟨x_7050, x_7051, (cI_tup hG), Bw.to hP hD hK ht hW⟩) hS dX7_line_48 hlocks
          · skip
            have hG := hG.trans (if_neg c_7061)
            have gc_7061 := ti_nlt c_7061 rfl kc_0
            obtain ⟨x_7062, ex_7062⟩ : ∃ z : Int32, z = z_7059 + Int32.ofInt 1 := ⟨_, rfl⟩
            have hG := hG.trans (lt_eq ex_7062)
            refine lv_iinc (v := x_7062) (lv' := [(1, .int x_7062), (2, .int z_7058), (0, .ref oM)]) hx hb dX7_line_35 hl (k := 1) rfl ex_7062.symm (by decide) rfl (fun ls hl => ?_)
            refine lv_aload_n hx hb dX7_line_38 rfl (lv_at hl 2 rfl) ?_
            refine lv_iload_n hx hb dX7_line_39 rfl (lv_at hl 1 rfl) ?_
            have hFc := va_freeI hD hS hA
            refine va_calli (va_runV (As := [.int z_7058]) (rest := []) ⟨hx, hb, hml, hown, hts⟩ (tX7_bestOf l dC dI _ oM x_7050 rM_tape iM_taped iM_size iM_at iM_end iM_token iM_whole iM_nameSize iM_fault iM_place x_7051 rM_letters iM_failed iM_hasCourt rM_r fM_r kM_r rM_fresh rM_told fM_told kM_told rM_read rM_st fM_st kM_st rM_undone rM_kept iM_undos iM_images rM_fresher iM_fresherSize iM_scale iM_night rM_heardRow rM_cutRow iM_breaths iM_cutMany iM_allBreaths rM_trial rM_words iM_fewestBreaths iM_orderMany iM_orderSum iM_leastOrder rM_often iM_setMany iM_someOf iM_allOf iM_allWeight iM_enoughWeight iM_worthSum iM_firstRest iM_leastDrawn z_7058 b_iM_taped b_iM_size b_iM_end b_iM_failed b_iM_hasCourt b_iM_undos b_iM_images b_iM_scale b_iM_breaths b_iM_cutMany (by assumption) (by assumption) (by assumption) (by assumption) (by assumption) ⟨gc_7061, hi0_n_7060.2⟩ hnt) (cwV 1 hts (wd_V wd_670 wd_671 wd_672 wd_5 (wd_c wd_673)) rfl rfl rfl dv_yX7_bestOf_1 ⟨Nat.le_of_ble_eq_true rfl, Nat.le_of_ble_eq_true rfl⟩) ⟨Pw.fb, recvX7 hK hP (q0 := 0) rfl, fun U hU hW => Pw.to hP hD hK hE hS hFc hU hW⟩ rfl rfl hl.1 rfl (lv_room (Nat.le_of_ble_eq_true rfl)) dX7_line_40 ⟨Nat.le_of_ble_eq_true rfl, Nat.le_of_ble_eq_true rfl⟩) hS (fun q _ h => hFc q h) hFc (fun r u t H locs ht hvm hw hB hz1 hk1 hS => ?_)
            have hru9 := hw.2
            have hw := hw.1
            obtain ⟨hP, hD⟩ := Bw.goA (ws' := [(oc7 oM x_7050 rM_tape iM_taped iM_size iM_at iM_end iM_token iM_whole iM_nameSize iM_fault iM_place x_7051 rM_letters iM_failed iM_hasCourt rM_r rM_fresh rM_told rM_read rM_st rM_undone rM_kept iM_undos iM_images rM_fresher iM_fresherSize iM_scale iM_night rM_heardRow rM_cutRow iM_breaths iM_cutMany iM_allBreaths rM_trial rM_words iM_fewestBreaths iM_orderMany iM_orderSum iM_leastOrder rM_often iM_setMany iM_someOf iM_allOf iM_allWeight iM_enoughWeight iM_worthSum iM_firstRest iM_leastDrawn), (arI rM_r kM_r 287 fM_r), (arI rM_told kM_told 90 fM_told), (arI rM_st kM_st 90 fM_st)]) hB rfl ht hFc rfl
            clear hz1 hk1 hvm ht hB
            obtain ⟨x_7063, rfl⟩ : ∃ z, z = r := ⟨_, rfl⟩
            have hG := hG.trans (lt_eq hru9.symm)
            have lx_7063 := hw.2
            have ux_7063 := hw.2
            refine lv_istore_n (lv' := [(2, .int x_7063), (1, .int x_7062), (0, .ref oM)]) hx hb dX7_line_43 rfl hl (by decide) rfl (fun ls hl => ?_)
            refine lv_goto (tgt := 31) hx hb dX7_line_44 (by decide) ?_
            exact ih_n_7060 x_7063 x_7062 _ _ _  ⟨lx_7063.1, (om_90a71968 hi0_n_7060.2 lx_7063.2.1)⟩ (ms_lt hm_n_7060 (om_27cbe1c0 lx_7063.2.1) (om_9734b4e0 hi0_n_7060.1)) hG hP hD hS (lv_sub hl [0, 1, 2] rfl)
      exact key_n_7060 (((x_7057.toInt + 3).toNat) + 1) x_7057 1 _ _ _  ⟨lx_7057.1, (om_2d06027e r_C1.2.2 cx_7056 lx_7057.2.1)⟩ (Nat.lt_add_one _) hG hP hD hS hl
    · skip
      have hG := hG.trans (if_pos c_7055)
      have gc_7055 := ti_eq c_7055 rfl kc_0
      refine lv_aload_n hx hb dX7_line_11 rfl (lv_at hl 0 rfl) ?_
      refine lv_iconst (v := 1) hx hb dX7_line_12 (by decide) ?_
      have hMs := ml_of hD [true, false, false, false] (wc := [(oc7 oM x_7050 rM_tape iM_taped iM_size iM_at iM_end iM_token iM_whole iM_nameSize iM_fault iM_place x_7051 rM_letters iM_failed iM_hasCourt rM_r rM_fresh rM_told rM_read rM_st rM_undone rM_kept iM_undos iM_images rM_fresher iM_fresherSize iM_scale iM_night rM_heardRow rM_cutRow iM_breaths iM_cutMany iM_allBreaths rM_trial rM_words iM_fewestBreaths iM_orderMany iM_orderSum iM_leastOrder rM_often iM_setMany iM_someOf iM_allOf iM_allWeight iM_enoughWeight iM_worthSum iM_firstRest iM_leastDrawn)]) rfl
      have hFc := va_freeM hD hS hA _ hMs
      refine va_calli (va_runV (As := [.int 1]) (rest := []) ⟨hx, hb, hml, hown, hts⟩ (tX7_no l dC dI _ oM x_7050 rM_tape iM_taped iM_size iM_at iM_end iM_token iM_whole iM_nameSize iM_fault iM_place x_7051 rM_letters iM_failed iM_hasCourt rM_r rM_fresh rM_told rM_read rM_st rM_undone rM_kept iM_undos iM_images rM_fresher iM_fresherSize iM_scale iM_night rM_heardRow rM_cutRow iM_breaths iM_cutMany iM_allBreaths rM_trial rM_words iM_fewestBreaths iM_orderMany iM_orderSum iM_leastOrder rM_often iM_setMany iM_someOf iM_allOf iM_allWeight iM_enoughWeight iM_worthSum iM_firstRest iM_leastDrawn 1 b_iM_taped b_iM_size b_iM_end b_iM_failed b_iM_hasCourt b_iM_undos b_iM_images b_iM_scale b_iM_breaths b_iM_cutMany) (cwV 1 hts (wd_V wd_396 wd_397 wd_398 wd_5 (wd_c wd_399)) rfl rfl rfl dv_yX7_no_1 ⟨Nat.le_of_ble_eq_true rfl, Nat.le_of_ble_eq_true rfl⟩) ⟨Pw.fb, recvX7 hK hP (q0 := 0) rfl, fun U hU hW => Pw.to (hP.ms _ hMs) (hD.ms _ hMs) (hK.ms [false, false, false] rfl) hE hS hFc hU hW⟩ rfl rfl hl.1 rfl (lv_room (Nat.le_of_ble_eq_true rfl)) dX7_line_13 ⟨Nat.le_of_ble_eq_true rfl, Nat.le_of_ble_eq_true rfl⟩) hS (fun q _ h => hFc q h) hFc (fun r u t H locs ht hvm hw hB hz1 hk1 hS => ?_)
      have hru9 := hw.2
      have hw := hw.1
      refine ex_1_1 hB (fun x_7064 e_x_7064_0 hB => ?_)
      obtain ⟨hP, hD⟩ := Bw.goN (ws' := [(oc7 oM x_7050 rM_tape iM_taped iM_size iM_at iM_end iM_token iM_whole iM_nameSize iM_fault iM_place x_7064 rM_letters iM_failed iM_hasCourt rM_r rM_fresh rM_told rM_read rM_st rM_undone rM_kept iM_undos iM_images rM_fresher iM_fresherSize iM_scale iM_night rM_heardRow rM_cutRow iM_breaths iM_cutMany iM_allBreaths rM_trial rM_words iM_fewestBreaths iM_orderMany iM_orderSum iM_leastOrder rM_often iM_setMany iM_someOf iM_allOf iM_allWeight iM_enoughWeight iM_worthSum iM_firstRest iM_leastDrawn), (arI rM_r kM_r 287 fM_r), (arI rM_told kM_told 90 fM_told), (arI rM_st kM_st 90 fM_st)]) hB rfl ht hP hD _ hMs hk1 hFc rfl
      clear hz1 hk1 hvm ht hB hMs
      rw [← hru9] at e_x_7064_0
      obtain ⟨x_7065, rfl⟩ : ∃ z, z = r := ⟨_, rfl⟩
      have hG := hG.trans (un2_eq e_x_7064_0)
      exact wq_i hx hb hr (cI x_7065) ⟨⟨trivial, trivial⟩, (cI_of x_7065)⟩ (fun t ht hW => ⟨x_7050, x_7064, (cI_tup hG), Bw.to hP hD hK ht hW⟩) hS dX7_line_16 hlocks
set_option maxHeartbeats 4000000 in
set_option maxRecDepth 100000 in
theorem tX7_lineAt (l : Launch) (dC : Nat → ClassId) (dI : Nat → Nat → Nat) (sz : Nat) (oM : Nat) (iM_thrown : Int32) (rM_tape : Nat) (iM_taped : Int32) (iM_size : Int32) (iM_at : Int32) (iM_end : Int32) (iM_token : Int32) (iM_whole : Int32) (iM_nameSize : Int32) (iM_fault : Int32) (iM_place : Int32) (iM_trouble : Int32) (rM_letters : Nat) (iM_failed : Int32) (iM_hasCourt : Int32) (rM_r : Nat) (fM_r : Nat → Int32) (kM_r : ClassId) (rM_fresh : Nat) (rM_told : Nat) (fM_told : Nat → Int32) (kM_told : ClassId) (rM_read : Nat) (rM_st : Nat) (fM_st : Nat → Int32) (kM_st : ClassId) (rM_undone : Nat) (rM_kept : Nat) (iM_undos : Int32) (iM_images : Int32) (rM_fresher : Nat) (iM_fresherSize : Int32) (iM_scale : Int32) (iM_night : Int32) (rM_heardRow : Nat) (rM_cutRow : Nat) (iM_breaths : Int32) (iM_cutMany : Int32) (iM_allBreaths : Int32) (rM_trial : Nat) (rM_words : Nat) (iM_fewestBreaths : Int32) (iM_orderMany : Int32) (iM_orderSum : Int32) (iM_leastOrder : Int32) (rM_often : Nat) (iM_setMany : Int32) (iM_someOf : Int32) (iM_allOf : Int32) (iM_allWeight : Int64) (iM_enoughWeight : Int64) (iM_worthSum : Int64) (iM_firstRest : Int32) (iM_leastDrawn : Int32) (p0 : Int32) (b_iM_taped : 0 ≤ iM_taped.toInt ∧ iM_taped.toInt ≤ 900) (b_iM_size : 0 ≤ iM_size.toInt ∧ iM_size.toInt ≤ 900) (b_iM_end : 0 ≤ iM_end.toInt ∧ iM_end.toInt ≤ 900) (b_iM_failed : 0 ≤ iM_failed.toInt ∧ iM_failed.toInt ≤ 1) (b_iM_hasCourt : 0 ≤ iM_hasCourt.toInt ∧ iM_hasCourt.toInt ≤ 1) (b_iM_undos : 0 ≤ iM_undos.toInt ∧ iM_undos.toInt ≤ 16) (b_iM_images : 0 ≤ iM_images.toInt ∧ iM_images.toInt ≤ 3) (b_iM_scale : 1 ≤ iM_scale.toInt ∧ iM_scale.toInt ≤ 1296) (b_iM_breaths : 0 ≤ iM_breaths.toInt ∧ iM_breaths.toInt ≤ 399) (b_iM_cutMany : 0 ≤ iM_cutMany.toInt ∧ iM_cutMany.toInt ≤ 399) (r_R : ROk fM_r) (r_C : iM_hasCourt.toInt ≤ 0 ∨ (1 ≤ (fM_r 1).toInt ∧ 0 ≤ (fM_r 6).toInt ∧ (fM_r 6).toInt < (fM_r 1).toInt)) (r_st : RowOk fM_r fM_st) (r_told : RowOk fM_r fM_told) (r_wst : WorOk fM_st) (hnt : iM_night.toInt = -1) : Met l yX7_lineAt (Cond.code yX7_lineAt cX7_lineAt 4 (some .int) :: wG) ({ frames := 22, cells := 0, slots := 0, locals := 586 }) (va_Pc [.ref oM, .int p0] (Pw dC dI sz [(oc7 oM iM_thrown rM_tape iM_taped iM_size iM_at iM_end iM_token iM_whole iM_nameSize iM_fault iM_place iM_trouble rM_letters iM_failed iM_hasCourt rM_r rM_fresh rM_told rM_read rM_st rM_undone rM_kept iM_undos iM_images rM_fresher iM_fresherSize iM_scale iM_night rM_heardRow rM_cutRow iM_breaths iM_cutMany iM_allBreaths rM_trial rM_words iM_fewestBreaths iM_orderMany iM_orderSum iM_leastOrder rM_often iM_setMany iM_someOf iM_allOf iM_allWeight iM_enoughWeight iM_worthSum iM_firstRest iM_leastDrawn), (arI rM_r kM_r 287 fM_r), (arI rM_told kM_told 90 fM_told), (arI rM_st kM_st 90 fM_st)] [(kM_r, .int), (kM_told, .int), (kM_st, .int)])) (va_Qi (fun (r : Int32) (u : Nat) => (True ∧ True) ∧ r = Int32.ofNat u) (fun (u : Nat) (t : State) => ∃ (niM_thrown : Int32) (niM_trouble : Int32), (PX7_lineAt iM_hasCourt fM_r fM_told fM_st iM_scale iM_night p0 = (Int32.ofNat u, niM_thrown, niM_trouble)) ∧ Bw dC dI (va_A [(oc7 oM iM_thrown rM_tape iM_taped iM_size iM_at iM_end iM_token iM_whole iM_nameSize iM_fault iM_place iM_trouble rM_letters iM_failed iM_hasCourt rM_r rM_fresh rM_told rM_read rM_st rM_undone rM_kept iM_undos iM_images rM_fresher iM_fresherSize iM_scale iM_night rM_heardRow rM_cutRow iM_breaths iM_cutMany iM_allBreaths rM_trial rM_words iM_fewestBreaths iM_orderMany iM_orderSum iM_leastOrder rM_often iM_setMany iM_someOf iM_allOf iM_allWeight iM_enoughWeight iM_worthSum iM_firstRest iM_leastDrawn), (arI rM_r kM_r 287 fM_r), (arI rM_told kM_told 90 fM_told), (arI rM_st kM_st 90 fM_st)] sz) [(oc7 oM niM_thrown rM_tape iM_taped iM_size iM_at iM_end iM_token iM_whole iM_nameSize iM_fault iM_place niM_trouble rM_letters iM_failed iM_hasCourt rM_r rM_fresh rM_told rM_read rM_st rM_undone rM_kept iM_undos iM_images rM_fresher iM_fresherSize iM_scale iM_night rM_heardRow rM_cutRow iM_breaths iM_cutMany iM_allBreaths rM_trial rM_words iM_fewestBreaths iM_orderMany iM_orderSum iM_leastOrder rM_often iM_setMany iM_someOf iM_allOf iM_allWeight iM_enoughWeight iM_worthSum iM_firstRest iM_leastDrawn), (arI rM_r kM_r 287 fM_r), (arI rM_told kM_told 90 fM_told), (arI rM_st kM_st 90 fM_st)] [(kM_r, .int), (kM_told, .int), (kM_st, .int)] t) (va_A [(oc7 oM iM_thrown rM_tape iM_taped iM_size iM_at iM_end iM_token iM_whole iM_nameSize iM_fault iM_place iM_trouble rM_letters iM_failed iM_hasCourt rM_r rM_fresh rM_told rM_read rM_st rM_undone rM_kept iM_undos iM_images rM_fresher iM_fresherSize iM_scale iM_night rM_heardRow rM_cutRow iM_breaths iM_cutMany iM_allBreaths rM_trial rM_words iM_fewestBreaths iM_orderMany iM_orderSum iM_leastOrder rM_often iM_setMany iM_someOf iM_allOf iM_allWeight iM_enoughWeight iM_worthSum iM_firstRest iM_leastDrawn), (arI rM_r kM_r 287 fM_r), (arI rM_told kM_told 90 fM_told), (arI rM_st kM_st 90 fM_st)] sz)) 0 0 (va_A [(oc7 oM iM_thrown rM_tape iM_taped iM_size iM_at iM_end iM_token iM_whole iM_nameSize iM_fault iM_place iM_trouble rM_letters iM_failed iM_hasCourt rM_r rM_fresh rM_told rM_read rM_st rM_undone rM_kept iM_undos iM_images rM_fresher iM_fresherSize iM_scale iM_night rM_heardRow rM_cutRow iM_breaths iM_cutMany iM_allBreaths rM_trial rM_words iM_fewestBreaths iM_orderMany iM_orderSum iM_leastOrder rM_often iM_setMany iM_someOf iM_allOf iM_allWeight iM_enoughWeight iM_worthSum iM_firstRest iM_leastDrawn), (arI rM_r kM_r 287 fM_r), (arI rM_told kM_told 90 fM_told), (arI rM_st kM_st 90 fM_st)] sz) := by
  refine Met.ofW (cc := cX7_lineAt) (maxL := 4) (ret := (some .int)) pnX7 rfl ?_
  intro p e s m args below meth c s₁ B hml hv
  obtain ⟨rfl, hsz, hP, hK, hD0, hE⟩ := hv
  have hx := B.exec
  have hb := B.bytes
  have hr := B.returns
  have hts : ∀ w ∈ wG, w.before ([.ref oM, .int p0] : List Value).toArray s = true := fun w h => atoms_spec (ws := Cond.code yX7_lineAt cX7_lineAt 4 (some .int) :: wG) B.pre w (List.mem_cons_of_mem _ h)
  have hown : s.vm.findClass RX7 = some m.cls := own_of B.named rfl
  have hlocks := B.notSynchronized
  subst hsz
  have hD := hD0.self (sz := s.heap.size)
  generalize hAe : va_A [(oc7 oM iM_thrown rM_tape iM_taped iM_size iM_at iM_end iM_token iM_whole iM_nameSize iM_fault iM_place iM_trouble rM_letters iM_failed iM_hasCourt rM_r rM_fresh rM_told rM_read rM_st rM_undone rM_kept iM_undos iM_images rM_fresher iM_fresherSize iM_scale iM_night rM_heardRow rM_cutRow iM_breaths iM_cutMany iM_allBreaths rM_trial rM_words iM_fewestBreaths iM_orderMany iM_orderSum iM_leastOrder rM_often iM_setMany iM_someOf iM_allOf iM_allWeight iM_enoughWeight iM_worthSum iM_firstRest iM_leastDrawn), (arI rM_r kM_r 287 fM_r), (arI rM_told kM_told 90 fM_told), (arI rM_st kM_st 90 fM_st)] s.heap.size = A at hD hE ⊢
  have hA : ∀ q : Nat, s.heap.size ≤ q → A q := fun q h => by rw [← hAe]; exact Or.inr h
  have hS : va_S A s.heap s.heap [] := va_S.rf
  have hl := lv_entry ([.ref oM, .int p0]) (n := 4) (Nat.le_of_ble_eq_true rfl)
  rw [lg_entry_eq]
  generalize (lg_sl ([.ref oM, .int p0]) ++ List.replicate (4 - (lg_sl ([.ref oM, .int p0])).length) Slot.unset).toArray = ls at hl ⊢
  have hl : lv_has ls 4 [(0, .ref oM), (1, .int p0)] := hl
  have hG := PX7_lineAt_eq iM_hasCourt fM_r fM_told fM_st iM_scale iM_night p0
  have rg_p0 := fb_rng p0
  have s_slips := r_R.slips
  have s_nodes := r_R.nodes
  have s_uns := r_R.uns
  refine lv_aload_n hx hb dX7_lineAt_0 rfl (lv_at hl 0 rfl) ?_
  have hMs := ml_of hD [true, false, false, false] (wc := [(oc7 oM iM_thrown rM_tape iM_taped iM_size iM_at iM_end iM_token iM_whole iM_nameSize iM_fault iM_place iM_trouble rM_letters iM_failed iM_hasCourt rM_r rM_fresh rM_told rM_read rM_st rM_undone rM_kept iM_undos iM_images rM_fresher iM_fresherSize iM_scale iM_night rM_heardRow rM_cutRow iM_breaths iM_cutMany iM_allBreaths rM_trial rM_words iM_fewestBreaths iM_orderMany iM_orderSum iM_leastOrder rM_often iM_setMany iM_someOf iM_allOf iM_allWeight iM_enoughWeight iM_worthSum iM_firstRest iM_leastDrawn)]) rfl
  have hFc := va_freeM hD hS hA _ hMs
  refine va_callv (va_runV (As := []) (rest := []) ⟨hx, hb, hml, hown, hts⟩ (tX7_good l dC dI _ oM iM_thrown rM_tape iM_taped iM_size iM_at iM_end iM_token iM_whole iM_nameSize iM_fault iM_place iM_trouble rM_letters iM_failed iM_hasCourt rM_r rM_fresh rM_told rM_read rM_st rM_undone rM_kept iM_undos iM_images rM_fresher iM_fresherSize iM_scale iM_night rM_heardRow rM_cutRow iM_breaths iM_cutMany iM_allBreaths rM_trial rM_words iM_fewestBreaths iM_orderMany iM_orderSum iM_leastOrder rM_often iM_setMany iM_someOf iM_allOf iM_allWeight iM_enoughWeight iM_worthSum iM_firstRest iM_leastDrawn b_iM_taped b_iM_size b_iM_end b_iM_failed b_iM_hasCourt b_iM_undos b_iM_images b_iM_scale b_iM_breaths b_iM_cutMany) (cwV 0 hts (wd_V wd_388 wd_389 wd_390 wd_5 (wd_c wd_391)) rfl rfl rfl dv_yX7_good_0 ⟨Nat.le_of_ble_eq_true rfl, Nat.le_of_ble_eq_true rfl⟩) ⟨Pw.fb, recvX7 hK hP (q0 := 0) rfl, fun U hU hW => Pw.to (hP.ms _ hMs) (hD.ms _ hMs) (hK.ms [false, false, false] rfl) hE hS hFc hU hW⟩ rfl rfl hl.1 rfl (lv_room (Nat.le_of_ble_eq_true rfl)) dX7_lineAt_1 ⟨Nat.le_of_ble_eq_true rfl, Nat.le_of_ble_eq_true rfl⟩) hS (fun q _ h => hFc q h) hFc (fun u t H locs ht hvm hw hB hz1 hk1 hS => ?_)
  refine ex_2_3 hB (fun x_7113 x_7114 b_x_7113 b_x_7114 e_x_7113_0 hB => ?_)
  obtain ⟨hP, hD⟩ := Bw.goN (ws' := [(oc7 oM x_7113 rM_tape iM_taped iM_size iM_at iM_end iM_token iM_whole iM_nameSize iM_fault iM_place x_7114 rM_letters iM_failed iM_hasCourt rM_r rM_fresh rM_told rM_read rM_st rM_undone rM_kept iM_undos iM_images rM_fresher iM_fresherSize iM_scale iM_night rM_heardRow rM_cutRow iM_breaths iM_cutMany iM_allBreaths rM_trial rM_words iM_fewestBreaths iM_orderMany iM_orderSum iM_leastOrder rM_often iM_setMany iM_someOf iM_allOf iM_allWeight iM_enoughWeight iM_worthSum iM_firstRest iM_leastDrawn), (arI rM_r kM_r 287 fM_r), (arI rM_told kM_told 90 fM_told), (arI rM_st kM_st 90 fM_st)]) hB rfl ht hP hD _ hMs hk1 hFc rfl
  clear hz1 hk1 hvm ht hB hMs
  have rg_x_7113 := fb_rng x_7113
  have rg_x_7114 := fb_rng x_7114
  have hG := hG.trans (un2_eq e_x_7113_0)
  refine lv_aload_n hx hb dX7_lineAt_4 rfl (lv_at hl 0 rfl) ?_
  rcases (id r_C) with r_C0 | r_C1
  · skip
    refine va_get (D := (dC, dI)) (ci := 7) (v := .int iM_hasCourt) (C := RX7) (T := TX7) (N := 48) hx hb hts inX7 hown hK hP 0 rfl rfl 14 (by decide) (hts _ wd_385) (fun _ h9 => h9) rfl dX7_lineAt_5 ?_
    have rg_iM_hasCourt := fb_rng iM_hasCourt
    refine lv_if_eq (tgt := 15) hx hb dX7_lineAt_8 (by decide) (fun c_7115 => ?_) (fun c_7115 => ?_)
    · skip
      have hG := hG.trans (if_pos c_7115)
      have gc_7115 := ti_eq c_7115 rfl kc_0
      refine lv_aload_n hx hb dX7_lineAt_15 rfl (lv_at hl 0 rfl) ?_
      refine lv_iconst (v := 1) hx hb dX7_lineAt_16 (by decide) ?_
      have hMs := ml_of hD [true, false, false, false] (wc := [(oc7 oM x_7113 rM_tape iM_taped iM_size iM_at iM_end iM_token iM_whole iM_nameSize iM_fault iM_place x_7114 rM_letters iM_failed iM_hasCourt rM_r rM_fresh rM_told rM_read rM_st rM_undone rM_kept iM_undos iM_images rM_fresher iM_fresherSize iM_scale iM_night rM_heardRow rM_cutRow iM_breaths iM_cutMany iM_allBreaths rM_trial rM_words iM_fewestBreaths iM_orderMany iM_orderSum iM_leastOrder rM_often iM_setMany iM_someOf iM_allOf iM_allWeight iM_enoughWeight iM_worthSum iM_firstRest iM_leastDrawn)]) rfl
      have hFc := va_freeM hD hS hA _ hMs
      refine va_calli (va_runV (As := [.int 1]) (rest := []) ⟨hx, hb, hml, hown, hts⟩ (tX7_no l dC dI _ oM x_7113 rM_tape iM_taped iM_size iM_at iM_end iM_token iM_whole iM_nameSize iM_fault iM_place x_7114 rM_letters iM_failed iM_hasCourt rM_r rM_fresh rM_told rM_read rM_st rM_undone rM_kept iM_undos iM_images rM_fresher iM_fresherSize iM_scale iM_night rM_heardRow rM_cutRow iM_breaths iM_cutMany iM_allBreaths rM_trial rM_words iM_fewestBreaths iM_orderMany iM_orderSum iM_leastOrder rM_often iM_setMany iM_someOf iM_allOf iM_allWeight iM_enoughWeight iM_worthSum iM_firstRest iM_leastDrawn 1 b_iM_taped b_iM_size b_iM_end b_iM_failed b_iM_hasCourt b_iM_undos b_iM_images b_iM_scale b_iM_breaths b_iM_cutMany) (cwV 1 hts (wd_V wd_396 wd_397 wd_398 wd_5 (wd_c wd_399)) rfl rfl rfl dv_yX7_no_1 ⟨Nat.le_of_ble_eq_true rfl, Nat.le_of_ble_eq_true rfl⟩) ⟨Pw.fb, recvX7 hK hP (q0 := 0) rfl, fun U hU hW => Pw.to (hP.ms _ hMs) (hD.ms _ hMs) (hK.ms [false, false, false] rfl) hE hS hFc hU hW⟩ rfl rfl hl.1 rfl (lv_room (Nat.le_of_ble_eq_true rfl)) dX7_lineAt_17 ⟨Nat.le_of_ble_eq_true rfl, Nat.le_of_ble_eq_true rfl⟩) hS (fun q _ h => hFc q h) hFc (fun r u t H locs ht hvm hw hB hz1 hk1 hS => ?_)
      have hru9 := hw.2
      have hw := hw.1
      refine ex_1_1 hB (fun x_7116 e_x_7116_0 hB => ?_)
      obtain ⟨hP, hD⟩ := Bw.goN (ws' := [(oc7 oM x_7113 rM_tape iM_taped iM_size iM_at iM_end iM_token iM_whole iM_nameSize iM_fault iM_place x_7116 rM_letters iM_failed iM_hasCourt rM_r rM_fresh rM_told rM_read rM_st rM_undone rM_kept iM_undos iM_images rM_fresher iM_fresherSize iM_scale iM_night rM_heardRow rM_cutRow iM_breaths iM_cutMany iM_allBreaths rM_trial rM_words iM_fewestBreaths iM_orderMany iM_orderSum iM_leastOrder rM_often iM_setMany iM_someOf iM_allOf iM_allWeight iM_enoughWeight iM_worthSum iM_firstRest iM_leastDrawn), (arI rM_r kM_r 287 fM_r), (arI rM_told kM_told 90 fM_told), (arI rM_st kM_st 90 fM_st)]) hB rfl ht hP hD _ hMs hk1 hFc rfl
      clear hz1 hk1 hvm ht hB hMs
      have rg_x_7116 := fb_rng x_7116
      rw [← hru9] at e_x_7116_0
      obtain ⟨x_7117, rfl⟩ : ∃ z, z = r := ⟨_, rfl⟩
      have hG := hG.trans (un2_eq e_x_7116_0)
      have rg_x_7117 := fb_rng x_7117
      exact wq_i hx hb hr (cI x_7117) ⟨⟨trivial, trivial⟩, (cI_of x_7117)⟩ (fun t ht hW => ⟨x_7113, x_7116, (cI_tup hG), Bw.to hP hD hK ht hW⟩) hS dX7_lineAt_20 hlocks
    · skip
      have hG := hG.trans (if_neg c_7115)
      have gc_7115 := ti_ne c_7115 rfl kc_0
      replace gc_7115 : iM_hasCourt.toInt + 1 ≤ 0 := om_c7c1b1e9 gc_7115 r_C0
      exact ((om_5185113d b_iM_hasCourt.1 gc_7115)).elim
  · skip
    refine va_get (D := (dC, dI)) (ci := 7) (v := .int iM_hasCourt) (C := RX7) (T := TX7) (N := 48) hx hb hts inX7 hown hK hP 0 rfl rfl 14 (by decide) (hts _ wd_385) (fun _ h9 => h9) rfl dX7_lineAt_5 ?_
    have rg_iM_hasCourt := fb_rng iM_hasCourt
    refine lv_if_eq (tgt := 15) hx hb dX7_lineAt_8 (by decide) (fun c_7118 => ?_) (fun c_7118 => ?_)
    · skip
      have hG := hG.trans (if_pos c_7118)
      have gc_7118 := ti_eq c_7118 rfl kc_0
      refine lv_aload_n hx hb dX7_lineAt_15 rfl (lv_at hl 0 rfl) ?_
      refine lv_iconst (v := 1) hx hb dX7_lineAt_16 (by decide) ?_
      have hMs := ml_of hD [true, false, false, false] (wc := [(oc7 oM x_7113 rM_tape iM_taped iM_size iM_at iM_end iM_token iM_whole iM_nameSize iM_fault iM_place x_7114 rM_letters iM_failed iM_hasCourt rM_r rM_fresh rM_told rM_read rM_st rM_undone rM_kept iM_undos iM_images rM_fresher iM_fresherSize iM_scale iM_night rM_heardRow rM_cutRow iM_breaths iM_cutMany iM_allBreaths rM_trial rM_words iM_fewestBreaths iM_orderMany iM_orderSum iM_leastOrder rM_often iM_setMany iM_someOf iM_allOf iM_allWeight iM_enoughWeight iM_worthSum iM_firstRest iM_leastDrawn)]) rfl
      have hFc := va_freeM hD hS hA _ hMs
      refine va_calli (va_runV (As := [.int 1]) (rest := []) ⟨hx, hb, hml, hown, hts⟩ (tX7_no l dC dI _ oM x_7113 rM_tape iM_taped iM_size iM_at iM_end iM_token iM_whole iM_nameSize iM_fault iM_place x_7114 rM_letters iM_failed iM_hasCourt rM_r rM_fresh rM_told rM_read rM_st rM_undone rM_kept iM_undos iM_images rM_fresher iM_fresherSize iM_scale iM_night rM_heardRow rM_cutRow iM_breaths iM_cutMany iM_allBreaths rM_trial rM_words iM_fewestBreaths iM_orderMany iM_orderSum iM_leastOrder rM_often iM_setMany iM_someOf iM_allOf iM_allWeight iM_enoughWeight iM_worthSum iM_firstRest iM_leastDrawn 1 b_iM_taped b_iM_size b_iM_end b_iM_failed b_iM_hasCourt b_iM_undos b_iM_images b_iM_scale b_iM_breaths b_iM_cutMany) (cwV 1 hts (wd_V wd_396 wd_397 wd_398 wd_5 (wd_c wd_399)) rfl rfl rfl dv_yX7_no_1 ⟨Nat.le_of_ble_eq_true rfl, Nat.le_of_ble_eq_true rfl⟩) ⟨Pw.fb, recvX7 hK hP (q0 := 0) rfl, fun U hU hW => Pw.to (hP.ms _ hMs) (hD.ms _ hMs) (hK.ms [false, false, false] rfl) hE hS hFc hU hW⟩ rfl rfl hl.1 rfl (lv_room (Nat.le_of_ble_eq_true rfl)) dX7_lineAt_17 ⟨Nat.le_of_ble_eq_true rfl, Nat.le_of_ble_eq_true rfl⟩) hS (fun q _ h => hFc q h) hFc (fun r u t H locs ht hvm hw hB hz1 hk1 hS => ?_)
      have hru9 := hw.2
      have hw := hw.1
      refine ex_1_1 hB (fun x_7119 e_x_7119_0 hB => ?_)
      obtain ⟨hP, hD⟩ := Bw.goN (ws' := [(oc7 oM x_7113 rM_tape iM_taped iM_size iM_at iM_end iM_token iM_whole iM_nameSize iM_fault iM_place x_7119 rM_letters iM_failed iM_hasCourt rM_r rM_fresh rM_told rM_read rM_st rM_undone rM_kept iM_undos iM_images rM_fresher iM_fresherSize iM_scale iM_night rM_heardRow rM_cutRow iM_breaths iM_cutMany iM_allBreaths rM_trial rM_words iM_fewestBreaths iM_orderMany iM_orderSum iM_leastOrder rM_often iM_setMany iM_someOf iM_allOf iM_allWeight iM_enoughWeight iM_worthSum iM_firstRest iM_leastDrawn), (arI rM_r kM_r 287 fM_r), (arI rM_told kM_told 90 fM_told), (arI rM_st kM_st 90 fM_st)]) hB rfl ht hP hD _ hMs hk1 hFc rfl
      clear hz1 hk1 hvm ht hB hMs
      have rg_x_7119 := fb_rng x_7119
      rw [← hru9] at e_x_7119_0
      obtain ⟨x_7120, rfl⟩ : ∃ z, z = r := ⟨_, rfl⟩
      have hG := hG.trans (un2_eq e_x_7119_0)
      have rg_x_7120 := fb_rng x_7120
      exact wq_i hx hb hr (cI x_7120) ⟨⟨trivial, trivial⟩, (cI_of x_7120)⟩ (fun t ht hW => ⟨x_7113, x_7119, (cI_tup hG), Bw.to hP hD hK ht hW⟩) hS dX7_lineAt_20 hlocks
    · skip
      have hG := hG.trans (if_neg c_7118)
      have gc_7118 := ti_ne c_7118 rfl kc_0
      replace gc_7118 : (-1) * iM_hasCourt.toInt + 1 ≤ 0 := om_e3003f79 gc_7118 b_iM_hasCourt.1
      refine lv_iload_n hx hb dX7_lineAt_11 rfl (lv_at hl 1 rfl) ?_
      refine lv_if_ge (tgt := 21) hx hb dX7_lineAt_12 (by decide) (fun c_7121 => ?_) (fun c_7121 => ?_)
      · skip
        have hG := hG.trans (if_pos c_7121)
        have gc_7121 := ti_le c_7121 kc_0 rfl
        refine lv_aload_n hx hb dX7_lineAt_21 rfl (lv_at hl 0 rfl) ?_
        refine va_get (D := (dC, dI)) (ci := 7) (v := .ref rM_r) (C := RX7) (T := TX7) (N := 48) hx hb hts inX7 hown hK hP 0 rfl rfl 15 (by decide) (hts _ wd_155) (fun _ h9 => h9) rfl dX7_lineAt_22 ?_
        refine lv_bipush (v := 6) hx hb dX7_lineAt_25 (by decide) ?_
        refine va_iald hx hb hK hP 1 0 rfl rfl (by unfold vp_in; decide) dX7_lineAt_27 ?_
        refine lv_topi (fun x_7122 ex_7122 => ?_)
        have hG := hG.trans (lt_eq ex_7122)
        have rg_x_7122 := fb_rng x_7122
        have cx_7122 : (fM_r 6).toInt = x_7122.toInt := congrArg Int32.toInt (show fM_r 6 = x_7122 from ex_7122.symm)
        refine lv_istore_n (lv' := [(2, .int x_7122), (0, .ref oM), (1, .int p0)]) hx hb dX7_lineAt_28 rfl hl (by decide) rfl (fun ls hl => ?_)
        refine lv_iconst (v := 0) hx hb dX7_lineAt_29 (by decide) ?_
        refine lv_istore_n (lv' := [(3, .int 0), (2, .int x_7122), (0, .ref oM), (1, .int p0)]) hx hb dX7_lineAt_30 rfl hl (by decide) rfl (fun ls hl => ?_)
        have hl := lv_sub hl (l' := [(3, .int 0), (2, .int x_7122), (0, .ref oM), (1, .int p0)]) [0, 1, 2, 3] rfl
        have key_n_7125 : ∀ (n_7125 : Nat) (z_7123 : Int32) (z_7124 : Int32) (H : Heap) (locs : List Loc) (ls : Array Slot), (-2 ≤ z_7123.toInt ∧ z_7123.toInt < (fM_r 1).toInt) → (z_7123.toInt + 3).toNat < n_7125 → (PX7_lineAt iM_hasCourt fM_r fM_told fM_st iM_scale iM_night p0 = HX7_lineAt_0 fM_r fM_told fM_st iM_scale iM_night p0 x_7113 x_7114 n_7125 z_7123 z_7124) → va_P (dC, dI) vwCl [(oc7 oM x_7113 rM_tape iM_taped iM_size iM_at iM_end iM_token iM_whole iM_nameSize iM_fault iM_place x_7114 rM_letters iM_failed iM_hasCourt rM_r rM_fresh rM_told rM_read rM_st rM_undone rM_kept iM_undos iM_images rM_fresher iM_fresherSize iM_scale iM_night rM_heardRow rM_cutRow iM_breaths iM_cutMany iM_allBreaths rM_trial rM_words iM_fewestBreaths iM_orderMany iM_orderSum iM_leastOrder rM_often iM_setMany iM_someOf iM_allOf iM_allWeight iM_enoughWeight iM_worthSum iM_firstRest iM_leastDrawn), (arI rM_r kM_r 287 fM_r), (arI rM_told kM_told 90 fM_told), (arI rM_st kM_st 90 fM_st)] H → va_D A [(oc7 oM x_7113 rM_tape iM_taped iM_size iM_at iM_end iM_token iM_whole iM_nameSize iM_fault iM_place x_7114 rM_letters iM_failed iM_hasCourt rM_r rM_fresh rM_told rM_read rM_st rM_undone rM_kept iM_undos iM_images rM_fresher iM_fresherSize iM_scale iM_night rM_heardRow rM_cutRow iM_breaths iM_cutMany iM_allBreaths rM_trial rM_words iM_fewestBreaths iM_orderMany iM_orderSum iM_leastOrder rM_often iM_setMany iM_someOf iM_allOf iM_allWeight iM_enoughWeight iM_worthSum iM_firstRest iM_leastDrawn), (arI rM_r kM_r 287 fM_r), (arI rM_told kM_told 90 fM_told), (arI rM_st kM_st 90 fM_st)] → va_S A s.heap H locs → lv_has ls 4 [(3, .int z_7124), (2, .int z_7123), (0, .ref oM), (1, .int p0)] → W p l e (headSpec (Cond.code yX7_lineAt cX7_lineAt 4 (some .int) :: wG) ({ frames := 22, cells := 0, slots := 0, locals := 586 })).room s m ([.ref oM, .int p0] : List Value).toArray below meth c H locs 0 0 (MQ below (va_Qi (fun (r : Int32) (u : Nat) => (True ∧ True) ∧ r = Int32.ofNat u) (fun (u : Nat) (t : State) => ∃ (niM_thrown : Int32) (niM_trouble : Int32), (PX7_lineAt iM_hasCourt fM_r fM_told fM_st iM_scale iM_night p0 = (Int32.ofNat u, niM_thrown, niM_trouble)) ∧ Bw dC dI A [(oc7 oM niM_thrown rM_tape iM_taped iM_size iM_at iM_end iM_token iM_whole iM_nameSize iM_fault iM_place niM_trouble rM_letters iM_failed iM_hasCourt rM_r rM_fresh rM_told rM_read rM_st rM_undone rM_kept iM_undos iM_images rM_fresher iM_fresherSize iM_scale iM_night rM_heardRow rM_cutRow iM_breaths iM_cutMany iM_allBreaths rM_trial rM_words iM_fewestBreaths iM_orderMany iM_orderSum iM_leastOrder rM_often iM_setMany iM_someOf iM_allOf iM_allWeight iM_enoughWeight iM_worthSum iM_firstRest iM_leastDrawn), (arI rM_r kM_r 287 fM_r), (arI rM_told kM_told 90 fM_told), (arI rM_st kM_st 90 fM_st)] [(kM_r, .int), (kM_told, .int), (kM_st, .int)] t) A) ([.ref oM, .int p0] : List Value).toArray s 0 0 A) (F0 m 31 ls []) := by
          intro n_7125
          induction n_7125 with
          | zero => intro z_7123 z_7124 H locs ls hi0_n_7125 hm; exact absurd hm (Nat.not_lt_zero _)
          | succ n_7125 ih_n_7125 =>
            intro z_7123 z_7124 H locs ls hi0_n_7125 hm_n_7125 hG hP hD hS hl
            have hG := hG.trans (HX7_lineAt_0_eq _ _ _ _ _ _ _ _ _ _ _)
            have rg_z_7123 := fb_rng z_7123
            have rg_z_7124 := fb_rng z_7124
            refine lv_iload_n hx hb dX7_lineAt_31 rfl (lv_at hl 0 rfl) ?_
            refine lv_iload_n hx hb dX7_lineAt_32 rfl (lv_at hl 3 rfl) ?_
            refine lv_icmp_ge (tgt := 52) hx hb dX7_lineAt_33 (by decide) (fun c_7126 => ?_) (fun c_7126 => ?_)
            · skip
              have hG := hG.trans (if_pos c_7126)
              have gc_7126 := ti_le c_7126 rfl rfl
              refine lv_iload_n hx hb dX7_lineAt_52 rfl (lv_at hl 1 rfl) ?_
              refine lv_if_ge (tgt := 64) hx hb dX7_lineAt_53 (by decide) (fun c_7127 => ?_) (fun c_7127 => ?_)
              · skip
                have hG := hG.trans (if_pos c_7127)
                have gc_7127 := ti_le c_7127 kc_0 rfl
                refine lv_iload_n hx hb dX7_lineAt_64 rfl (lv_at hl 1 rfl) ?_
                exact wq_i hx hb hr (cI z_7123) ⟨⟨trivial, trivial⟩, (cI_of z_7123)⟩ (fun t ht hW => ⟨x_7113, x_7114, (cI_tup hG), Bw.to hP hD hK ht hW⟩) hS dX7_lineAt_65 hlocks
              · skip
                have hG := hG.trans (if_neg c_7127)
                have gc_7127 := ti_nle c_7127 kc_0 rfl
                refine lv_aload_n hx hb dX7_lineAt_56 rfl (lv_at hl 2 rfl) ?_
                refine lv_iconst (v := 1) hx hb dX7_lineAt_57 (by decide) ?_
                have hMs := ml_of hD [true, false, false, false] (wc := [(oc7 oM x_7113 rM_tape iM_taped iM_size iM_at iM_end iM_token iM_whole iM_nameSize iM_fault iM_place x_7114 rM_letters iM_failed iM_hasCourt rM_r rM_fresh rM_told rM_read rM_st rM_undone rM_kept iM_undos iM_images rM_fresher iM_fresherSize iM_scale iM_night rM_heardRow rM_cutRow iM_breaths iM_cutMany iM_allBreaths rM_trial rM_words iM_fewestBreaths iM_orderMany iM_orderSum iM_leastOrder rM_often iM_setMany iM_someOf iM_allOf iM_allWeight iM_enoughWeight iM_worthSum iM_firstRest iM_leastDrawn)]) rfl
                have hFc := va_freeM hD hS hA _ hMs
                refine va_calli (va_runV (As := [.int 1]) (rest := []) ⟨hx, hb, hml, hown, hts⟩ (tX7_no l dC dI _ oM x_7113 rM_tape iM_taped iM_size iM_at iM_end iM_token iM_whole iM_nameSize iM_fault iM_place x_7114 rM_letters iM_failed iM_hasCourt rM_r rM_fresh rM_told rM_read rM_st rM_undone rM_kept iM_undos iM_images rM_fresher iM_fresherSize iM_scale iM_night rM_heardRow rM_cutRow iM_breaths iM_cutMany iM_allBreaths rM_trial rM_words iM_fewestBreaths iM_orderMany iM_orderSum iM_leastOrder rM_often iM_setMany iM_someOf iM_allOf iM_allWeight iM_enoughWeight iM_worthSum iM_firstRest iM_leastDrawn 1 b_iM_taped b_iM_size b_iM_end b_iM_failed b_iM_hasCourt b_iM_undos b_iM_images b_iM_scale b_iM_breaths b_iM_cutMany) (cwV 1 hts (wd_V wd_396 wd_397 wd_398 wd_5 (wd_c wd_399)) rfl rfl rfl dv_yX7_no_1 ⟨Nat.le_of_ble_eq_true rfl, Nat.le_of_ble_eq_true rfl⟩) ⟨Pw.fb, recvX7 hK hP (q0 := 0) rfl, fun U hU hW => Pw.to (hP.ms _ hMs) (hD.ms _ hMs) (hK.ms [false, false, false] rfl) hE hS hFc hU hW⟩ rfl rfl hl.1 rfl (lv_room (Nat.le_of_ble_eq_true rfl)) dX7_lineAt_58 ⟨Nat.le_of_ble_eq_true rfl, Nat.le_of_ble_eq_true rfl⟩) hS (fun q _ h => hFc q h) hFc (fun r u t H locs ht hvm hw hB hz1 hk1 hS => ?_)
                have hru9 := hw.2
                have hw := hw.1
                refine ex_1_1 hB (fun x_7128 e_x_7128_0 hB => ?_)
                obtain ⟨hP, hD⟩ := Bw.goN (ws' := [(oc7 oM x_7113 rM_tape iM_taped iM_size iM_at iM_end iM_token iM_whole iM_nameSize iM_fault iM_place x_7128 rM_letters iM_failed iM_hasCourt rM_r rM_fresh rM_told rM_read rM_st rM_undone rM_kept iM_undos iM_images rM_fresher iM_fresherSize iM_scale iM_night rM_heardRow rM_cutRow iM_breaths iM_cutMany iM_allBreaths rM_trial rM_words iM_fewestBreaths iM_orderMany iM_orderSum iM_leastOrder rM_often iM_setMany iM_someOf iM_allOf iM_allWeight iM_enoughWeight iM_worthSum iM_firstRest iM_leastDrawn), (arI rM_r kM_r 287 fM_r), (arI rM_told kM_told 90 fM_told), (arI rM_st kM_st 90 fM_st)]) hB rfl ht hP hD _ hMs hk1 hFc rfl
                clear hz1 hk1 hvm ht hB hMs
                have rg_x_7128 := fb_rng x_7128
                rw [← hru9] at e_x_7128_0
                obtain ⟨x_7129, rfl⟩ : ∃ z, z = r := ⟨_, rfl⟩
                have hG := hG.trans (un2_eq e_x_7128_0)
                have rg_x_7129 := fb_rng x_7129
                refine lv_goto (tgt := 65) hx hb dX7_lineAt_61 (by decide) ?_
                exact wq_i hx hb hr (cI x_7129) ⟨⟨trivial, trivial⟩, (cI_of x_7129)⟩ (fun t ht hW => ⟨x_7113, x_7128, (cI_tup hG), Bw.to hP hD hK ht hW⟩) hS dX7_lineAt_65 hlocks
            · skip
              have hG := hG.trans (if_neg c_7126)
              have gc_7126 := ti_nle c_7126 rfl rfl
              refine lv_iload_n hx hb dX7_lineAt_36 rfl (lv_at hl 1 rfl) ?_
              refine lv_if_lt (tgt := 52) hx hb dX7_lineAt_37 (by decide) (fun c_7130 => ?_) (fun c_7130 => ?_)
              · skip
                have hG := hG.trans (if_pos c_7130)
                have gc_7130 := ti_lt c_7130 rfl kc_0
                refine lv_iload_n hx hb dX7_lineAt_52 rfl (lv_at hl 1 rfl) ?_
                refine lv_if_ge (tgt := 64) hx hb dX7_lineAt_53 (by decide) (fun c_7131 => ?_) (fun c_7131 => ?_)
                · skip
                  have hG := hG.trans (if_pos c_7131)
                  have gc_7131 := ti_le c_7131 kc_0 rfl
                  exact ((om_735be106 gc_7130 gc_7131)).elim
                · skip
                  have hG := hG.trans (if_neg c_7131)
                  have gc_7131 := ti_nle c_7131 kc_0 rfl
                  refine lv_aload_n hx hb dX7_lineAt_56 rfl (lv_at hl 2 rfl) ?_
                  refine lv_iconst (v := 1) hx hb dX7_lineAt_57 (by decide) ?_
                  have hMs := ml_of hD [true, false, false, false] (wc := [(oc7 oM x_7113 rM_tape iM_taped iM_size iM_at iM_end iM_token iM_whole iM_nameSize iM_fault iM_place x_7114 rM_letters iM_failed iM_hasCourt rM_r rM_fresh rM_told rM_read rM_st rM_undone rM_kept iM_undos iM_images rM_fresher iM_fresherSize iM_scale iM_night rM_heardRow rM_cutRow iM_breaths iM_cutMany iM_allBreaths rM_trial rM_words iM_fewestBreaths iM_orderMany iM_orderSum iM_leastOrder rM_often iM_setMany iM_someOf iM_allOf iM_allWeight iM_enoughWeight iM_worthSum iM_firstRest iM_leastDrawn)]) rfl
                  have hFc := va_freeM hD hS hA _ hMs
                  refine va_calli (va_runV (As := [.int 1]) (rest := []) ⟨hx, hb, hml, hown, hts⟩ (tX7_no l dC dI _ oM x_7113 rM_tape iM_taped iM_size iM_at iM_end iM_token iM_whole iM_nameSize iM_fault iM_place x_7114 rM_letters iM_failed iM_hasCourt rM_r rM_fresh rM_told rM_read rM_st rM_undone rM_kept iM_undos iM_images rM_fresher iM_fresherSize iM_scale iM_night rM_heardRow rM_cutRow iM_breaths iM_cutMany iM_allBreaths rM_trial rM_words iM_fewestBreaths iM_orderMany iM_orderSum iM_leastOrder rM_often iM_setMany iM_someOf iM_allOf iM_allWeight iM_enoughWeight iM_worthSum iM_firstRest iM_leastDrawn 1 b_iM_taped b_iM_size b_iM_end b_iM_failed b_iM_hasCourt b_iM_undos b_iM_images b_iM_scale b_iM_breaths b_iM_cutMany) (cwV 1 hts (wd_V wd_396 wd_397 wd_398 wd_5 (wd_c wd_399)) rfl rfl rfl dv_yX7_no_1 ⟨Nat.le_of_ble_eq_true rfl, Nat.le_of_ble_eq_true rfl⟩) ⟨Pw.fb, recvX7 hK hP (q0 := 0) rfl, fun U hU hW => Pw.to (hP.ms _ hMs) (hD.ms _ hMs) (hK.ms [false, false, false] rfl) hE hS hFc hU hW⟩ rfl rfl hl.1 rfl (lv_room (Nat.le_of_ble_eq_true rfl)) dX7_lineAt_58 ⟨Nat.le_of_ble_eq_true rfl, Nat.le_of_ble_eq_true rfl⟩) hS (fun q _ h => hFc q h) hFc (fun r u t H locs ht hvm hw hB hz1 hk1 hS => ?_)
                  have hru9 := hw.2
                  have hw := hw.1
                  refine ex_1_1 hB (fun x_7132 e_x_7132_0 hB => ?_)
                  obtain ⟨hP, hD⟩ := Bw.goN (ws' := [(oc7 oM x_7113 rM_tape iM_taped iM_size iM_at iM_end iM_token iM_whole iM_nameSize iM_fault iM_place x_7132 rM_letters iM_failed iM_hasCourt rM_r rM_fresh rM_told rM_read rM_st rM_undone rM_kept iM_undos iM_images rM_fresher iM_fresherSize iM_scale iM_night rM_heardRow rM_cutRow iM_breaths iM_cutMany iM_allBreaths rM_trial rM_words iM_fewestBreaths iM_orderMany iM_orderSum iM_leastOrder rM_often iM_setMany iM_someOf iM_allOf iM_allWeight iM_enoughWeight iM_worthSum iM_firstRest iM_leastDrawn), (arI rM_r kM_r 287 fM_r), (arI rM_told kM_told 90 fM_told), (arI rM_st kM_st 90 fM_st)]) hB rfl ht hP hD _ hMs hk1 hFc rfl
                  clear hz1 hk1 hvm ht hB hMs
                  have rg_x_7132 := fb_rng x_7132
                  rw [← hru9] at e_x_7132_0
                  obtain ⟨x_7133, rfl⟩ : ∃ z, z = r := ⟨_, rfl⟩
                  have hG := hG.trans (un2_eq e_x_7132_0)
                  have rg_x_7133 := fb_rng x_7133
                  refine lv_goto (tgt := 65) hx hb dX7_lineAt_61 (by decide) ?_
                  exact wq_i hx hb hr (cI x_7133) ⟨⟨trivial, trivial⟩, (cI_of x_7133)⟩ (fun t ht hW => ⟨x_7113, x_7132, (cI_tup hG), Bw.to hP hD hK ht hW⟩) hS dX7_lineAt_65 hlocks
              · skip
                have hG := hG.trans (if_neg c_7130)
                have gc_7130 := ti_nlt c_7130 rfl kc_0
                refine lv_aload_n hx hb dX7_lineAt_40 rfl (lv_at hl 2 rfl) ?_
                refine lv_iload_n hx hb dX7_lineAt_41 rfl (lv_at hl 1 rfl) ?_
                have rg_iM_night := fb_rng iM_night
                have hFc := va_freeI hD hS hA
                refine va_calli (va_runV (As := [.int z_7123]) (rest := []) ⟨hx, hb, hml, hown, hts⟩ (tX7_bestOf l dC dI _ oM x_7113 rM_tape iM_taped iM_size iM_at iM_end iM_token iM_whole iM_nameSize iM_fault iM_place x_7114 rM_letters iM_failed iM_hasCourt rM_r fM_r kM_r rM_fresh rM_told fM_told kM_told rM_read rM_st fM_st kM_st rM_undone rM_kept iM_undos iM_images rM_fresher iM_fresherSize iM_scale iM_night rM_heardRow rM_cutRow iM_breaths iM_cutMany iM_allBreaths rM_trial rM_words iM_fewestBreaths iM_orderMany iM_orderSum iM_leastOrder rM_often iM_setMany iM_someOf iM_allOf iM_allWeight iM_enoughWeight iM_worthSum iM_firstRest iM_leastDrawn z_7123 b_iM_taped b_iM_size b_iM_end b_iM_failed b_iM_hasCourt b_iM_undos b_iM_images b_iM_scale b_iM_breaths b_iM_cutMany (by assumption) (by assumption) (by assumption) (by assumption) (by assumption) ⟨gc_7130, hi0_n_7125.2⟩ hnt) (cwV 1 hts (wd_V wd_670 wd_671 wd_672 wd_5 (wd_c wd_673)) rfl rfl rfl dv_yX7_bestOf_1 ⟨Nat.le_of_ble_eq_true rfl, Nat.le_of_ble_eq_true rfl⟩) ⟨Pw.fb, recvX7 hK hP (q0 := 0) rfl, fun U hU hW => Pw.to hP hD hK hE hS hFc hU hW⟩ rfl rfl hl.1 rfl (lv_room (Nat.le_of_ble_eq_true rfl)) dX7_lineAt_42 ⟨Nat.le_of_ble_eq_true rfl, Nat.le_of_ble_eq_true rfl⟩) hS (fun q _ h => hFc q h) hFc (fun r u t H locs ht hvm hw hB hz1 hk1 hS => ?_)
                have hru9 := hw.2
                have hw := hw.1
                obtain ⟨hP, hD⟩ := Bw.goA (ws' := [(oc7 oM x_7113 rM_tape iM_taped iM_size iM_at iM_end iM_token iM_whole iM_nameSize iM_fault iM_place x_7114 rM_letters iM_failed iM_hasCourt rM_r rM_fresh rM_told rM_read rM_st rM_undone rM_kept iM_undos iM_images rM_fresher iM_fresherSize iM_scale iM_night rM_heardRow rM_cutRow iM_breaths iM_cutMany iM_allBreaths rM_trial rM_words iM_fewestBreaths iM_orderMany iM_orderSum iM_leastOrder rM_often iM_setMany iM_someOf iM_allOf iM_allWeight iM_enoughWeight iM_worthSum iM_firstRest iM_leastDrawn), (arI rM_r kM_r 287 fM_r), (arI rM_told kM_told 90 fM_told), (arI rM_st kM_st 90 fM_st)]) hB rfl ht hFc rfl
                clear hz1 hk1 hvm ht hB
                obtain ⟨x_7134, rfl⟩ : ∃ z, z = r := ⟨_, rfl⟩
                have hG := hG.trans (lt_eq hru9.symm)
                have rg_x_7134 := fb_rng x_7134
                have lx_7134 := hw.2
                have ux_7134 := hw.2
                refine lv_istore_n (lv' := [(2, .int x_7134), (3, .int z_7124), (0, .ref oM), (1, .int p0)]) hx hb dX7_lineAt_45 rfl hl (by decide) rfl (fun ls hl => ?_)
                obtain ⟨x_7135, ex_7135⟩ : ∃ z : Int32, z = z_7124 + Int32.ofInt 1 := ⟨_, rfl⟩
                have hG := hG.trans (lt_eq ex_7135)
                have vx_7135 : x_7135.toInt = z_7124.toInt + 1 := ti_add (y := 1) ex_7135 rfl kc_1 (om_81d93db8 rg_z_7124.1) (om_219cd8d8 rg_p0.2 gc_7126)
                refine lv_iinc (v := x_7135) (lv' := [(3, .int x_7135), (2, .int x_7134), (0, .ref oM), (1, .int p0)]) hx hb dX7_lineAt_46 hl (k := 1) rfl ex_7135.symm (by decide) rfl (fun ls hl => ?_)
                refine lv_goto (tgt := 31) hx hb dX7_lineAt_49 (by decide) ?_
                exact ih_n_7125 x_7134 x_7135 _ _ _  ⟨lx_7134.1, (om_90a71968 hi0_n_7125.2 lx_7134.2.1)⟩ (ms_lt hm_n_7125 (om_27cbe1c0 lx_7134.2.1) (om_9734b4e0 hi0_n_7125.1)) hG hP hD hS (lv_sub hl [0, 1, 2, 3] rfl)
        exact key_n_7125 (((x_7122.toInt + 3).toNat) + 1) x_7122 0 _ _ _  ⟨(om_cad2a9ff r_C1.2.1 cx_7122), (om_21cef2c6 r_C1.2.2 cx_7122)⟩ (Nat.lt_add_one _) hG hP hD hS hl
      · skip
        have hG := hG.trans (if_neg c_7121)
        have gc_7121 := ti_nle c_7121 kc_0 rfl
        refine lv_aload_n hx hb dX7_lineAt_15 rfl (lv_at hl 0 rfl) ?_
        refine lv_iconst (v := 1) hx hb dX7_lineAt_16 (by decide) ?_
        have hMs := ml_of hD [true, false, false, false] (wc := [(oc7 oM x_7113 rM_tape iM_taped iM_size iM_at iM_end iM_token iM_whole iM_nameSize iM_fault iM_place x_7114 rM_letters iM_failed iM_hasCourt rM_r rM_fresh rM_told rM_read rM_st rM_undone rM_kept iM_undos iM_images rM_fresher iM_fresherSize iM_scale iM_night rM_heardRow rM_cutRow iM_breaths iM_cutMany iM_allBreaths rM_trial rM_words iM_fewestBreaths iM_orderMany iM_orderSum iM_leastOrder rM_often iM_setMany iM_someOf iM_allOf iM_allWeight iM_enoughWeight iM_worthSum iM_firstRest iM_leastDrawn)]) rfl
        have hFc := va_freeM hD hS hA _ hMs
        refine va_calli (va_runV (As := [.int 1]) (rest := []) ⟨hx, hb, hml, hown, hts⟩ (tX7_no l dC dI _ oM x_7113 rM_tape iM_taped iM_size iM_at iM_end iM_token iM_whole iM_nameSize iM_fault iM_place x_7114 rM_letters iM_failed iM_hasCourt rM_r rM_fresh rM_told rM_read rM_st rM_undone rM_kept iM_undos iM_images rM_fresher iM_fresherSize iM_scale iM_night rM_heardRow rM_cutRow iM_breaths iM_cutMany iM_allBreaths rM_trial rM_words iM_fewestBreaths iM_orderMany iM_orderSum iM_leastOrder rM_often iM_setMany iM_someOf iM_allOf iM_allWeight iM_enoughWeight iM_worthSum iM_firstRest iM_leastDrawn 1 b_iM_taped b_iM_size b_iM_end b_iM_failed b_iM_hasCourt b_iM_undos b_iM_images b_iM_scale b_iM_breaths b_iM_cutMany) (cwV 1 hts (wd_V wd_396 wd_397 wd_398 wd_5 (wd_c wd_399)) rfl rfl rfl dv_yX7_no_1 ⟨Nat.le_of_ble_eq_true rfl, Nat.le_of_ble_eq_true rfl⟩) ⟨Pw.fb, recvX7 hK hP (q0 := 0) rfl, fun U hU hW => Pw.to (hP.ms _ hMs) (hD.ms _ hMs) (hK.ms [false, false, false] rfl) hE hS hFc hU hW⟩ rfl rfl hl.1 rfl (lv_room (Nat.le_of_ble_eq_true rfl)) dX7_lineAt_17 ⟨Nat.le_of_ble_eq_true rfl, Nat.le_of_ble_eq_true rfl⟩) hS (fun q _ h => hFc q h) hFc (fun r u t H locs ht hvm hw hB hz1 hk1 hS => ?_)
        have hru9 := hw.2
        have hw := hw.1
        refine ex_1_1 hB (fun x_7136 e_x_7136_0 hB => ?_)
        obtain ⟨hP, hD⟩ := Bw.goN (ws' := [(oc7 oM x_7113 rM_tape iM_taped iM_size iM_at iM_end iM_token iM_whole iM_nameSize iM_fault iM_place x_7136 rM_letters iM_failed iM_hasCourt rM_r rM_fresh rM_told rM_read rM_st rM_undone rM_kept iM_undos iM_images rM_fresher iM_fresherSize iM_scale iM_night rM_heardRow rM_cutRow iM_breaths iM_cutMany iM_allBreaths rM_trial rM_words iM_fewestBreaths iM_orderMany iM_orderSum iM_leastOrder rM_often iM_setMany iM_someOf iM_allOf iM_allWeight iM_enoughWeight iM_worthSum iM_firstRest iM_leastDrawn), (arI rM_r kM_r 287 fM_r), (arI rM_told kM_told 90 fM_told), (arI rM_st kM_st 90 fM_st)]) hB rfl ht hP hD _ hMs hk1 hFc rfl
        clear hz1 hk1 hvm ht hB hMs
        have rg_x_7136 := fb_rng x_7136
        rw [← hru9] at e_x_7136_0
        obtain ⟨x_7137, rfl⟩ : ∃ z, z = r := ⟨_, rfl⟩
        have hG := hG.trans (un2_eq e_x_7136_0)
        have rg_x_7137 := fb_rng x_7137
        exact wq_i hx hb hr (cI x_7137) ⟨⟨trivial, trivial⟩, (cI_of x_7137)⟩ (fun t ht hW => ⟨x_7113, x_7136, (cI_tup hG), Bw.to hP hD hK ht hW⟩) hS dX7_lineAt_20 hlocks
set_option maxHeartbeats 4000000 in
set_option maxRecDepth 100000 in
theorem tX7_court (l : Launch) (dC : Nat → ClassId) (dI : Nat → Nat → Nat) (sz : Nat) (oM : Nat) (iM_thrown : Int32) (rM_tape : Nat) (fM_tape : Nat → Int32) (kM_tape : ClassId) (iM_taped : Int32) (iM_size : Int32) (iM_at : Int32) (iM_end : Int32) (iM_token : Int32) (iM_whole : Int32) (iM_nameSize : Int32) (iM_fault : Int32) (iM_place : Int32) (iM_trouble : Int32) (rM_letters : Nat) (fM_letters : Nat → Int32) (kM_letters : ClassId) (iM_failed : Int32) (iM_hasCourt : Int32) (rM_r : Nat) (fM_r : Nat → Int32) (kM_r : ClassId) (rM_fresh : Nat) (fM_fresh : Nat → Int32) (kM_fresh : ClassId) (rM_told : Nat) (fM_told : Nat → Int32) (kM_told : ClassId) (rM_read : Nat) (fM_read : Nat → Int32) (kM_read : ClassId) (rM_st : Nat) (fM_st : Nat → Int32) (kM_st : ClassId) (rM_undone : Nat) (fM_undone : Nat → Int32) (kM_undone : ClassId) (rM_kept : Nat) (fM_kept : Nat → Int32) (kM_kept : ClassId) (iM_undos : Int32) (iM_images : Int32) (rM_fresher : Nat) (fM_fresher : Nat → Int32) (kM_fresher : ClassId) (iM_fresherSize : Int32) (iM_scale : Int32) (iM_night : Int32) (rM_heardRow : Nat) (rM_cutRow : Nat) (iM_breaths : Int32) (iM_cutMany : Int32) (iM_allBreaths : Int32) (rM_trial : Nat) (rM_words : Nat) (iM_fewestBreaths : Int32) (iM_orderMany : Int32) (iM_orderSum : Int32) (iM_leastOrder : Int32) (rM_often : Nat) (iM_setMany : Int32) (iM_someOf : Int32) (iM_allOf : Int32) (iM_allWeight : Int64) (iM_enoughWeight : Int64) (iM_worthSum : Int64) (iM_firstRest : Int32) (iM_leastDrawn : Int32) (p0 : Int32) (b_iM_taped : 0 ≤ iM_taped.toInt ∧ iM_taped.toInt ≤ 900) (b_iM_size : 0 ≤ iM_size.toInt ∧ iM_size.toInt ≤ 900) (b_iM_end : 0 ≤ iM_end.toInt ∧ iM_end.toInt ≤ 900) (b_iM_nameSize : 0 ≤ iM_nameSize.toInt ∧ iM_nameSize.toInt ≤ 900) (b_iM_failed : 0 ≤ iM_failed.toInt ∧ iM_failed.toInt ≤ 1) (b_iM_hasCourt : 0 ≤ iM_hasCourt.toInt ∧ iM_hasCourt.toInt ≤ 1) (b_iM_undos : 0 ≤ iM_undos.toInt ∧ iM_undos.toInt ≤ 16) (b_iM_images : 0 ≤ iM_images.toInt ∧ iM_images.toInt ≤ 3) (b_iM_scale : 1 ≤ iM_scale.toInt ∧ iM_scale.toInt ≤ 1296) (b_iM_breaths : 0 ≤ iM_breaths.toInt ∧ iM_breaths.toInt ≤ 399) (b_iM_cutMany : 0 ≤ iM_cutMany.toInt ∧ iM_cutMany.toInt ≤ 399) (r_R : ROk fM_r) (r_C : iM_hasCourt.toInt ≤ 0 ∨ (1 ≤ (fM_r 1).toInt ∧ 0 ≤ (fM_r 6).toInt ∧ (fM_r 6).toInt < (fM_r 1).toInt)) (r_st : RowOk fM_r fM_st) (r_told : RowOk fM_r fM_told) (r_wst : WorOk fM_st) (r_un : HistOk fM_r fM_undone iM_undos.toInt) (r_ke : HistOk fM_r fM_kept iM_images.toInt) (r_T : ImpP (iM_token.toInt = 2) (iM_nameSize.toInt ≤ 8))  : Met l yX7_court (Cond.code yX7_court cX7_court 3 (some .int) :: wG) ({ frames := 10, cells := 0, slots := 0, locals := 240 }) (va_Pc [.ref oM, .int p0] (Pw dC dI sz [(oc7 oM iM_thrown rM_tape iM_taped iM_size iM_at iM_end iM_token iM_whole iM_nameSize iM_fault iM_place iM_trouble rM_letters iM_failed iM_hasCourt rM_r rM_fresh rM_told rM_read rM_st rM_undone rM_kept iM_undos iM_images rM_fresher iM_fresherSize iM_scale iM_night rM_heardRow rM_cutRow iM_breaths iM_cutMany iM_allBreaths rM_trial rM_words iM_fewestBreaths iM_orderMany iM_orderSum iM_leastOrder rM_often iM_setMany iM_someOf iM_allOf iM_allWeight iM_enoughWeight iM_worthSum iM_firstRest iM_leastDrawn), (arI rM_tape kM_tape 900 fM_tape), (arI rM_letters kM_letters 8 fM_letters), (arI rM_r kM_r 287 fM_r), (arI rM_fresh kM_fresh 287 fM_fresh), (arI rM_told kM_told 90 fM_told), (arI rM_read kM_read 90 fM_read), (arI rM_st kM_st 90 fM_st), (arI rM_undone kM_undone 1440 fM_undone), (arI rM_kept kM_kept 270 fM_kept), (arI rM_fresher kM_fresher 8 fM_fresher)] [(kM_tape, .int), (kM_letters, .int), (kM_r, .int), (kM_fresh, .int), (kM_told, .int), (kM_read, .int), (kM_st, .int), (kM_undone, .int), (kM_kept, .int), (kM_fresher, .int)])) (va_Qi (fun (r : Int32) (u : Nat) => (True ∧ True) ∧ r = Int32.ofNat u) (fun (u : Nat) (t : State) => ∃ (niM_thrown : Int32) (niM_taped : Int32) (niM_size : Int32) (niM_at : Int32) (niM_end : Int32) (niM_token : Int32) (niM_whole : Int32) (niM_nameSize : Int32) (niM_fault : Int32) (niM_place : Int32) (niM_trouble : Int32) (niM_failed : Int32) (niM_hasCourt : Int32) (niM_undos : Int32) (niM_images : Int32) (niM_fresherSize : Int32) (niM_scale : Int32) (nfM_letters : Nat → Int32) (nfM_r : Nat → Int32) (nfM_fresh : Nat → Int32) (nfM_told : Nat → Int32) (nfM_read : Nat → Int32) (nfM_st : Nat → Int32) (nfM_fresher : Nat → Int32), (0 ≤ niM_taped.toInt ∧ niM_taped.toInt ≤ 900) ∧ (0 ≤ niM_size.toInt ∧ niM_size.toInt ≤ 900) ∧ (0 ≤ niM_end.toInt ∧ niM_end.toInt ≤ 900) ∧ (0 ≤ niM_nameSize.toInt ∧ niM_nameSize.toInt ≤ 900) ∧ (0 ≤ niM_failed.toInt ∧ niM_failed.toInt ≤ 1) ∧ (0 ≤ niM_hasCourt.toInt ∧ niM_hasCourt.toInt ≤ 1) ∧ (0 ≤ niM_undos.toInt ∧ niM_undos.toInt ≤ 16) ∧ (0 ≤ niM_images.toInt ∧ niM_images.toInt ≤ 3) ∧ (1 ≤ niM_scale.toInt ∧ niM_scale.toInt ≤ 1296) ∧ (ROk nfM_r) ∧ (niM_hasCourt.toInt ≤ 0 ∨ (1 ≤ (nfM_r 1).toInt ∧ 0 ≤ (nfM_r 6).toInt ∧ (nfM_r 6).toInt < (nfM_r 1).toInt)) ∧ (RowOk nfM_r nfM_st) ∧ (RowOk nfM_r nfM_told) ∧ (WorOk nfM_st) ∧ (HistOk nfM_r fM_undone niM_undos.toInt) ∧ (HistOk nfM_r fM_kept niM_images.toInt) ∧ (ImpP (niM_token.toInt = 2) (niM_nameSize.toInt ≤ 8)) ∧ ((0 ≤ p0.toInt ∧ p0.toInt ≤ iM_taped.toInt ∧ niM_taped.toInt = 0) ∨ ((p0.toInt < 0 ∨ iM_taped.toInt < p0.toInt) ∧ niM_taped.toInt = iM_taped.toInt)) ∧ (PX7_court fM_tape iM_taped iM_size iM_at iM_end iM_token iM_whole iM_nameSize iM_fault iM_place fM_letters iM_failed iM_hasCourt fM_r fM_fresh fM_told fM_read fM_st iM_undos iM_images fM_fresher iM_fresherSize iM_scale p0 = (Int32.ofNat u, niM_thrown, niM_taped, niM_size, niM_at, niM_end, niM_token, niM_whole, niM_nameSize, niM_fault, niM_place, niM_trouble, niM_failed, niM_hasCourt, niM_undos, niM_images, niM_fresherSize, niM_scale, nfM_letters, nfM_r, nfM_fresh, nfM_told, nfM_read, nfM_st, nfM_fresher)) ∧ Bw dC dI (va_A [(oc7 oM iM_thrown rM_tape iM_taped iM_size iM_at iM_end iM_token iM_whole iM_nameSize iM_fault iM_place iM_trouble rM_letters iM_failed iM_hasCourt rM_r rM_fresh rM_told rM_read rM_st rM_undone rM_kept iM_undos iM_images rM_fresher iM_fresherSize iM_scale iM_night rM_heardRow rM_cutRow iM_breaths iM_cutMany iM_allBreaths rM_trial rM_words iM_fewestBreaths iM_orderMany iM_orderSum iM_leastOrder rM_often iM_setMany iM_someOf iM_allOf iM_allWeight iM_enoughWeight iM_worthSum iM_firstRest iM_leastDrawn), (arI rM_tape kM_tape 900 fM_tape), (arI rM_letters kM_letters 8 fM_letters), (arI rM_r kM_r 287 fM_r), (arI rM_fresh kM_fresh 287 fM_fresh), (arI rM_told kM_told 90 fM_told), (arI rM_read kM_read 90 fM_read), (arI rM_st kM_st 90 fM_st), (arI rM_undone kM_undone 1440 fM_undone), (arI rM_kept kM_kept 270 fM_kept), (arI rM_fresher kM_fresher 8 fM_fresher)] sz) [(oc7 oM niM_thrown rM_tape niM_taped niM_size niM_at niM_end niM_token niM_whole niM_nameSize niM_fault niM_place niM_trouble rM_letters niM_failed niM_hasCourt rM_r rM_fresh rM_told rM_read rM_st rM_undone rM_kept niM_undos niM_images rM_fresher niM_fresherSize niM_scale iM_night rM_heardRow rM_cutRow iM_breaths iM_cutMany iM_allBreaths rM_trial rM_words iM_fewestBreaths iM_orderMany iM_orderSum iM_leastOrder rM_often iM_setMany iM_someOf iM_allOf iM_allWeight iM_enoughWeight iM_worthSum iM_firstRest iM_leastDrawn), (arI rM_tape kM_tape 900 fM_tape), (arI rM_letters kM_letters 8 nfM_letters), (arI rM_r kM_r 287 nfM_r), (arI rM_fresh kM_fresh 287 nfM_fresh), (arI rM_told kM_told 90 nfM_told), (arI rM_read kM_read 90 nfM_read), (arI rM_st kM_st 90 nfM_st), (arI rM_undone kM_undone 1440 fM_undone), (arI rM_kept kM_kept 270 fM_kept), (arI rM_fresher kM_fresher 8 nfM_fresher)] [(kM_tape, .int), (kM_letters, .int), (kM_r, .int), (kM_fresh, .int), (kM_told, .int), (kM_read, .int), (kM_st, .int), (kM_undone, .int), (kM_kept, .int), (kM_fresher, .int)] t) (va_A [(oc7 oM iM_thrown rM_tape iM_taped iM_size iM_at iM_end iM_token iM_whole iM_nameSize iM_fault iM_place iM_trouble rM_letters iM_failed iM_hasCourt rM_r rM_fresh rM_told rM_read rM_st rM_undone rM_kept iM_undos iM_images rM_fresher iM_fresherSize iM_scale iM_night rM_heardRow rM_cutRow iM_breaths iM_cutMany iM_allBreaths rM_trial rM_words iM_fewestBreaths iM_orderMany iM_orderSum iM_leastOrder rM_often iM_setMany iM_someOf iM_allOf iM_allWeight iM_enoughWeight iM_worthSum iM_firstRest iM_leastDrawn), (arI rM_tape kM_tape 900 fM_tape), (arI rM_letters kM_letters 8 fM_letters), (arI rM_r kM_r 287 fM_r), (arI rM_fresh kM_fresh 287 fM_fresh), (arI rM_told kM_told 90 fM_told), (arI rM_read kM_read 90 fM_read), (arI rM_st kM_st 90 fM_st), (arI rM_undone kM_undone 1440 fM_undone), (arI rM_kept kM_kept 270 fM_kept), (arI rM_fresher kM_fresher 8 fM_fresher)] sz)) 0 0 (va_A [(oc7 oM iM_thrown rM_tape iM_taped iM_size iM_at iM_end iM_token iM_whole iM_nameSize iM_fault iM_place iM_trouble rM_letters iM_failed iM_hasCourt rM_r rM_fresh rM_told rM_read rM_st rM_undone rM_kept iM_undos iM_images rM_fresher iM_fresherSize iM_scale iM_night rM_heardRow rM_cutRow iM_breaths iM_cutMany iM_allBreaths rM_trial rM_words iM_fewestBreaths iM_orderMany iM_orderSum iM_leastOrder rM_often iM_setMany iM_someOf iM_allOf iM_allWeight iM_enoughWeight iM_worthSum iM_firstRest iM_leastDrawn), (arI rM_tape kM_tape 900 fM_tape), (arI rM_letters kM_letters 8 fM_letters), (arI rM_r kM_r 287 fM_r), (arI rM_fresh kM_fresh 287 fM_fresh), (arI rM_told kM_told 90 fM_told), (arI rM_read kM_read 90 fM_read), (arI rM_st kM_st 90 fM_st), (arI rM_undone kM_undone 1440 fM_undone), (arI rM_kept kM_kept 270 fM_kept), (arI rM_fresher kM_fresher 8 fM_fresher)] sz) := by
  refine Met.ofW (cc := cX7_court) (maxL := 3) (ret := (some .int)) pnX7 rfl ?_
  intro p e s m args below meth c s₁ B hml hv
  obtain ⟨rfl, hsz, hP, hK, hD0, hE⟩ := hv
  have hx := B.exec
  have hb := B.bytes
  have hr := B.returns
  have hts : ∀ w ∈ wG, w.before ([.ref oM, .int p0] : List Value).toArray s = true := fun w h => atoms_spec (ws := Cond.code yX7_court cX7_court 3 (some .int) :: wG) B.pre w (List.mem_cons_of_mem _ h)
  have hown : s.vm.findClass RX7 = some m.cls := own_of B.named rfl
  have hlocks := B.notSynchronized
  subst hsz
  have hD := hD0.self (sz := s.heap.size)
  generalize hAe : va_A [(oc7 oM iM_thrown rM_tape iM_taped iM_size iM_at iM_end iM_token iM_whole iM_nameSize iM_fault iM_place iM_trouble rM_letters iM_failed iM_hasCourt rM_r rM_fresh rM_told rM_read rM_st rM_undone rM_kept iM_undos iM_images rM_fresher iM_fresherSize iM_scale iM_night rM_heardRow rM_cutRow iM_breaths iM_cutMany iM_allBreaths rM_trial rM_words iM_fewestBreaths iM_orderMany iM_orderSum iM_leastOrder rM_often iM_setMany iM_someOf iM_allOf iM_allWeight iM_enoughWeight iM_worthSum iM_firstRest iM_leastDrawn), (arI rM_tape kM_tape 900 fM_tape), (arI rM_letters kM_letters 8 fM_letters), (arI rM_r kM_r 287 fM_r), (arI rM_fresh kM_fresh 287 fM_fresh), (arI rM_told kM_told 90 fM_told), (arI rM_read kM_read 90 fM_read), (arI rM_st kM_st 90 fM_st), (arI rM_undone kM_undone 1440 fM_undone), (arI rM_kept kM_kept 270 fM_kept), (arI rM_fresher kM_fresher 8 fM_fresher)] s.heap.size = A at hD hE ⊢
  have hA : ∀ q : Nat, s.heap.size ≤ q → A q := fun q h => by rw [← hAe]; exact Or.inr h
  have hS : va_S A s.heap s.heap [] := va_S.rf
  have hl := lv_entry ([.ref oM, .int p0]) (n := 3) (Nat.le_of_ble_eq_true rfl)
  rw [lg_entry_eq]
  generalize (lg_sl ([.ref oM, .int p0]) ++ List.replicate (3 - (lg_sl ([.ref oM, .int p0])).length) Slot.unset).toArray = ls at hl ⊢
  have hl : lv_has ls 3 [(0, .ref oM), (1, .int p0)] := hl
  have hG := PX7_court_eq fM_tape iM_taped iM_size iM_at iM_end iM_token iM_whole iM_nameSize iM_fault iM_place fM_letters iM_failed iM_hasCourt fM_r fM_fresh fM_told fM_read fM_st iM_undos iM_images fM_fresher iM_fresherSize iM_scale p0
  have s_slips := r_R.slips
  have s_nodes := r_R.nodes
  have s_uns := r_R.uns
  refine lv_aload_n hx hb dX7_court_0 rfl (lv_at hl 0 rfl) ?_
  have hMs := ml_of hD [true, false, false, false, false, false, false, false, false, false, false] (wc := [(oc7 oM iM_thrown rM_tape iM_taped iM_size iM_at iM_end iM_token iM_whole iM_nameSize iM_fault iM_place iM_trouble rM_letters iM_failed iM_hasCourt rM_r rM_fresh rM_told rM_read rM_st rM_undone rM_kept iM_undos iM_images rM_fresher iM_fresherSize iM_scale iM_night rM_heardRow rM_cutRow iM_breaths iM_cutMany iM_allBreaths rM_trial rM_words iM_fewestBreaths iM_orderMany iM_orderSum iM_leastOrder rM_often iM_setMany iM_someOf iM_allOf iM_allWeight iM_enoughWeight iM_worthSum iM_firstRest iM_leastDrawn)]) rfl
  have hFc := va_freeM hD hS hA _ hMs
  refine va_callv (va_runV (As := []) (rest := []) ⟨hx, hb, hml, hown, hts⟩ (tX7_good l dC dI _ oM iM_thrown rM_tape iM_taped iM_size iM_at iM_end iM_token iM_whole iM_nameSize iM_fault iM_place iM_trouble rM_letters iM_failed iM_hasCourt rM_r rM_fresh rM_told rM_read rM_st rM_undone rM_kept iM_undos iM_images rM_fresher iM_fresherSize iM_scale iM_night rM_heardRow rM_cutRow iM_breaths iM_cutMany iM_allBreaths rM_trial rM_words iM_fewestBreaths iM_orderMany iM_orderSum iM_leastOrder rM_often iM_setMany iM_someOf iM_allOf iM_allWeight iM_enoughWeight iM_worthSum iM_firstRest iM_leastDrawn b_iM_taped b_iM_size b_iM_end b_iM_failed b_iM_hasCourt b_iM_undos b_iM_images b_iM_scale b_iM_breaths b_iM_cutMany) (cwV 0 hts (wd_V wd_388 wd_389 wd_390 wd_5 (wd_c wd_391)) rfl rfl rfl dv_yX7_good_0 ⟨Nat.le_of_ble_eq_true rfl, Nat.le_of_ble_eq_true rfl⟩) ⟨Pw.fb, recvX7 hK hP (q0 := 0) rfl, fun U hU hW => Pw.to (hP.ms _ hMs) (hD.ms _ hMs) (hK.ms [false, false, false, false, false, false, false, false, false, false] rfl) hE hS hFc hU hW⟩ rfl rfl hl.1 rfl (lv_room (Nat.le_of_ble_eq_true rfl)) dX7_court_1 ⟨Nat.le_of_ble_eq_true rfl, Nat.le_of_ble_eq_true rfl⟩) hS (fun q _ h => hFc q h) hFc (fun u t H locs ht hvm hw hB hz1 hk1 hS => ?_)
  refine ex_2_3 hB (fun x_7259 x_7260 b_x_7259 b_x_7260 e_x_7259_0 hB => ?_)
  obtain ⟨hP, hD⟩ := Bw.goN (ws' := [(oc7 oM x_7259 rM_tape iM_taped iM_size iM_at iM_end iM_token iM_whole iM_nameSize iM_fault iM_place x_7260 rM_letters iM_failed iM_hasCourt rM_r rM_fresh rM_told rM_read rM_st rM_undone rM_kept iM_undos iM_images rM_fresher iM_fresherSize iM_scale iM_night rM_heardRow rM_cutRow iM_breaths iM_cutMany iM_allBreaths rM_trial rM_words iM_fewestBreaths iM_orderMany iM_orderSum iM_leastOrder rM_often iM_setMany iM_someOf iM_allOf iM_allWeight iM_enoughWeight iM_worthSum iM_firstRest iM_leastDrawn), (arI rM_tape kM_tape 900 fM_tape), (arI rM_letters kM_letters 8 fM_letters), (arI rM_r kM_r 287 fM_r), (arI rM_fresh kM_fresh 287 fM_fresh), (arI rM_told kM_told 90 fM_told), (arI rM_read kM_read 90 fM_read), (arI rM_st kM_st 90 fM_st), (arI rM_undone kM_undone 1440 fM_undone), (arI rM_kept kM_kept 270 fM_kept), (arI rM_fresher kM_fresher 8 fM_fresher)]) hB rfl ht hP hD _ hMs hk1 hFc rfl
  clear hz1 hk1 hvm ht hB hMs
  have hG := hG.trans (un2_eq e_x_7259_0)
  refine lv_iload_n hx hb dX7_court_4 rfl (lv_at hl 1 rfl) ?_
  refine lv_iconst (v := 0) hx hb dX7_court_5 (by decide) ?_
  refine lv_aload_n hx hb dX7_court_6 rfl (lv_at hl 0 rfl) ?_
  refine va_get (D := (dC, dI)) (ci := 7) (v := .int iM_taped) (C := RX7) (T := TX7) (N := 48) hx hb hts inX7 hown hK hP 0 rfl rfl 2 (by decide) (hts _ wd_185) (fun _ h9 => h9) rfl dX7_court_7 ?_
  have hFc : ∀ q, va_A [] _ q → A q := fun q h => hA q (Nat.le_trans hS.1 (va_nilA h))
  refine va_calli (va_runS (As := [.int p0, .int 0, .int iM_taped]) (rest := []) ⟨hx, hb, hml, hown, hts⟩ (tX7_in l dC dI _ p0 0 iM_taped ) (va_cwS 3 hts (wd_S wd_393 wd_394 wd_5 (wd_c wd_395)) rfl rfl rfl ds_yX7_in_3 ⟨Nat.le_of_ble_eq_true rfl, Nat.le_of_ble_eq_true rfl⟩) ⟨Pw.fb, fun U hU hW => Pn.to hK hE hS hA hU hW⟩ rfl rfl hl.1 rfl (lv_room (Nat.le_of_ble_eq_true rfl)) dX7_court_10 ⟨Nat.le_of_ble_eq_true rfl, Nat.le_of_ble_eq_true rfl⟩) hS (fun q _ h => hFc q h) hFc (fun r u t H locs ht hvm hw hB hz1 hk1 hS => ?_)
  obtain ⟨hP, hD, hK⟩ := Bw.same ht hvm hP hD hK hk1 hFc
  clear hz1 hk1 hvm ht hB
  have hq9 := hw.2
  have hw := hw.1
  obtain ⟨x_7261, rfl⟩ : ∃ z, z = r := ⟨_, rfl⟩
  have hq_x_7261 := hq9
  have hG := hG.trans (lt_eq hq_x_7261.symm)
  have bx_7261 := hw.1
  have dx_7261 := bz_tb bx_7261
  have px_7261 := hw.2
  rcases px_7261 with ⟨gx_7261, hx_7261⟩ | ⟨gx_7261, hx_7261⟩
  · skip
    have l9x_7261 := kc_0
    refine lv_if_ne (tgt := 22) hx hb dX7_court_13 (by decide) (fun c_7262 => ?_) (fun c_7262 => ?_)
    · skip
      have hG := hG.trans (if_neg c_7262)
      have gc_7262 := ti_ne c_7262 rfl kc_0
      replace gc_7262 : (-1) * x_7261.toInt + 1 ≤ 0 := om_e3003f79 gc_7262 dx_7261.1
      refine lv_aload_n hx hb dX7_court_22 rfl (lv_at hl 0 rfl) ?_
      refine lv_iconst (v := 0) hx hb dX7_court_23 (by decide) ?_
      refine va_put (D := (dC, dI)) (ci := 7) (v := .int 0) (ty := .int) (C := RX7) (T := TX7) (N := 48) hx hb hts inX7 tyX7 tyX7_ok nmX7 hown hK hP hD hS 0 rfl rfl 2 (by decide) (hts _ wd_185) (fun _ h9 => h9) rfl (by decide +kernel) rfl rfl (Nat.le_of_ble_eq_true rfl) dX7_court_24 (fun H locs hP hD hS => ?_)
      obtain ⟨hP, hD⟩ := wl2 (ws' := [(oc7 oM x_7259 rM_tape 0 iM_size iM_at iM_end iM_token iM_whole iM_nameSize iM_fault iM_place x_7260 rM_letters iM_failed iM_hasCourt rM_r rM_fresh rM_told rM_read rM_st rM_undone rM_kept iM_undos iM_images rM_fresher iM_fresherSize iM_scale iM_night rM_heardRow rM_cutRow iM_breaths iM_cutMany iM_allBreaths rM_trial rM_words iM_fewestBreaths iM_orderMany iM_orderSum iM_leastOrder rM_often iM_setMany iM_someOf iM_allOf iM_allWeight iM_enoughWeight iM_worthSum iM_firstRest iM_leastDrawn), (arI rM_tape kM_tape 900 fM_tape), (arI rM_letters kM_letters 8 fM_letters), (arI rM_r kM_r 287 fM_r), (arI rM_fresh kM_fresh 287 fM_fresh), (arI rM_told kM_told 90 fM_told), (arI rM_read kM_read 90 fM_read), (arI rM_st kM_st 90 fM_st), (arI rM_undone kM_undone 1440 fM_undone), (arI rM_kept kM_kept 270 fM_kept), (arI rM_fresher kM_fresher 8 fM_fresher)]) hP hD rfl
      refine lv_aload_n hx hb dX7_court_27 rfl (lv_at hl 0 rfl) ?_
      refine lv_iconst (v := 0) hx hb dX7_court_28 (by decide) ?_
      refine va_put (D := (dC, dI)) (ci := 7) (v := .int 0) (ty := .int) (C := RX7) (T := TX7) (N := 48) hx hb hts inX7 tyX7 tyX7_ok nmX7 hown hK hP hD hS 0 rfl rfl 9 (by decide) (hts _ wd_379) (fun _ h9 => h9) rfl (by decide +kernel) rfl rfl (Nat.le_of_ble_eq_true rfl) dX7_court_29 (fun H locs hP hD hS => ?_)
      obtain ⟨hP, hD⟩ := wl2 (ws' := [(oc7 oM x_7259 rM_tape 0 iM_size iM_at iM_end iM_token iM_whole iM_nameSize 0 iM_place x_7260 rM_letters iM_failed iM_hasCourt rM_r rM_fresh rM_told rM_read rM_st rM_undone rM_kept iM_undos iM_images rM_fresher iM_fresherSize iM_scale iM_night rM_heardRow rM_cutRow iM_breaths iM_cutMany iM_allBreaths rM_trial rM_words iM_fewestBreaths iM_orderMany iM_orderSum iM_leastOrder rM_often iM_setMany iM_someOf iM_allOf iM_allWeight iM_enoughWeight iM_worthSum iM_firstRest iM_leastDrawn), (arI rM_tape kM_tape 900 fM_tape), (arI rM_letters kM_letters 8 fM_letters), (arI rM_r kM_r 287 fM_r), (arI rM_fresh kM_fresh 287 fM_fresh), (arI rM_told kM_told 90 fM_told), (arI rM_read kM_read 90 fM_read), (arI rM_st kM_st 90 fM_st), (arI rM_undone kM_undone 1440 fM_undone), (arI rM_kept kM_kept 270 fM_kept), (arI rM_fresher kM_fresher 8 fM_fresher)]) hP hD rfl
      refine lv_aload_n hx hb dX7_court_32 rfl (lv_at hl 0 rfl) ?_
      refine lv_iconst (v := 0) hx hb dX7_court_33 (by decide) ?_
      refine va_put (D := (dC, dI)) (ci := 7) (v := .int 0) (ty := .boolean) (C := RX7) (T := TX7) (N := 48) hx hb hts inX7 tyX7 tyX7_ok nmX7 hown hK hP hD hS 0 rfl rfl 13 (by decide) (hts _ wd_380) (fun _ h9 => h9) rfl (by decide +kernel) rfl rfl (Nat.le_of_ble_eq_true rfl) dX7_court_34 (fun H locs hP hD hS => ?_)
      obtain ⟨hP, hD⟩ := wl2 (ws' := [(oc7 oM x_7259 rM_tape 0 iM_size iM_at iM_end iM_token iM_whole iM_nameSize 0 iM_place x_7260 rM_letters 0 iM_hasCourt rM_r rM_fresh rM_told rM_read rM_st rM_undone rM_kept iM_undos iM_images rM_fresher iM_fresherSize iM_scale iM_night rM_heardRow rM_cutRow iM_breaths iM_cutMany iM_allBreaths rM_trial rM_words iM_fewestBreaths iM_orderMany iM_orderSum iM_leastOrder rM_often iM_setMany iM_someOf iM_allOf iM_allWeight iM_enoughWeight iM_worthSum iM_firstRest iM_leastDrawn), (arI rM_tape kM_tape 900 fM_tape), (arI rM_letters kM_letters 8 fM_letters), (arI rM_r kM_r 287 fM_r), (arI rM_fresh kM_fresh 287 fM_fresh), (arI rM_told kM_told 90 fM_told), (arI rM_read kM_read 90 fM_read), (arI rM_st kM_st 90 fM_st), (arI rM_undone kM_undone 1440 fM_undone), (arI rM_kept kM_kept 270 fM_kept), (arI rM_fresher kM_fresher 8 fM_fresher)]) hP hD rfl
      refine lv_iconst (v := 0) hx hb dX7_court_37 (by decide) ?_
      refine lv_istore_n (lv' := [(2, .int 0), (0, .ref oM), (1, .int p0)]) hx hb dX7_court_38 rfl hl (by decide) rfl (fun ls hl => ?_)
      have hl := lv_sub hl (l' := [(2, .int 0), (0, .ref oM), (1, .int p0)]) [0, 1, 2] rfl
      have key_n_7265 : ∀ (n_7265 : Nat) (z_7263 : Int32) (f_7264 : Nat → Int32) (H : Heap) (locs : List Loc) (ls : Array Slot), (0 ≤ z_7263.toInt ∧ z_7263.toInt ≤ 287) → (ZerI z_7263.toNatClampNeg f_7264) → (287 - z_7263.toInt).toNat < n_7265 → (PX7_court fM_tape iM_taped iM_size iM_at iM_end iM_token iM_whole iM_nameSize iM_fault iM_place fM_letters iM_failed iM_hasCourt fM_r fM_fresh fM_told fM_read fM_st iM_undos iM_images fM_fresher iM_fresherSize iM_scale p0 = HX7_court_0 fM_tape iM_place fM_letters iM_hasCourt fM_r fM_told fM_read fM_st iM_undos iM_images fM_fresher iM_fresherSize iM_scale p0 x_7259 x_7260 n_7265 z_7263 f_7264) → va_P (dC, dI) vwCl [(oc7 oM x_7259 rM_tape 0 iM_size iM_at iM_end iM_token iM_whole iM_nameSize 0 iM_place x_7260 rM_letters 0 iM_hasCourt rM_r rM_fresh rM_told rM_read rM_st rM_undone rM_kept iM_undos iM_images rM_fresher iM_fresherSize iM_scale iM_night rM_heardRow rM_cutRow iM_breaths iM_cutMany iM_allBreaths rM_trial rM_words iM_fewestBreaths iM_orderMany iM_orderSum iM_leastOrder rM_often iM_setMany iM_someOf iM_allOf iM_allWeight iM_enoughWeight iM_worthSum iM_firstRest iM_leastDrawn), (arI rM_tape kM_tape 900 fM_tape), (arI rM_letters kM_letters 8 fM_letters), (arI rM_r kM_r 287 fM_r), (arI rM_fresh kM_fresh 287 f_7264), (arI rM_told kM_told 90 fM_told), (arI rM_read kM_read 90 fM_read), (arI rM_st kM_st 90 fM_st), (arI rM_undone kM_undone 1440 fM_undone), (arI rM_kept kM_kept 270 fM_kept), (arI rM_fresher kM_fresher 8 fM_fresher)] H → va_D A [(oc7 oM x_7259 rM_tape 0 iM_size iM_at iM_end iM_token iM_whole iM_nameSize 0 iM_place x_7260 rM_letters 0 iM_hasCourt rM_r rM_fresh rM_told rM_read rM_st rM_undone rM_kept iM_undos iM_images rM_fresher iM_fresherSize iM_scale iM_night rM_heardRow rM_cutRow iM_breaths iM_cutMany iM_allBreaths rM_trial rM_words iM_fewestBreaths iM_orderMany iM_orderSum iM_leastOrder rM_often iM_setMany iM_someOf iM_allOf iM_allWeight iM_enoughWeight iM_worthSum iM_firstRest iM_leastDrawn), (arI rM_tape kM_tape 900 fM_tape), (arI rM_letters kM_letters 8 fM_letters), (arI rM_r kM_r 287 fM_r), (arI rM_fresh kM_fresh 287 f_7264), (arI rM_told kM_told 90 fM_told), (arI rM_read kM_read 90 fM_read), (arI rM_st kM_st 90 fM_st), (arI rM_undone kM_undone 1440 fM_undone), (arI rM_kept kM_kept 270 fM_kept), (arI rM_fresher kM_fresher 8 fM_fresher)] → va_S A s.heap H locs → lv_has ls 3 [(2, .int z_7263), (0, .ref oM), (1, .int p0)] → W p l e (headSpec (Cond.code yX7_court cX7_court 3 (some .int) :: wG) ({ frames := 10, cells := 0, slots := 0, locals := 240 })).room s m ([.ref oM, .int p0] : List Value).toArray below meth c H locs 0 0 (MQ below (va_Qi (fun (r : Int32) (u : Nat) => (True ∧ True) ∧ r = Int32.ofNat u) (fun (u : Nat) (t : State) => ∃ (niM_thrown : Int32) (niM_taped : Int32) (niM_size : Int32) (niM_at : Int32) (niM_end : Int32) (niM_token : Int32) (niM_whole : Int32) (niM_nameSize : Int32) (niM_fault : Int32) (niM_place : Int32) (niM_trouble : Int32) (niM_failed : Int32) (niM_hasCourt : Int32) (niM_undos : Int32) (niM_images : Int32) (niM_fresherSize : Int32) (niM_scale : Int32) (nfM_letters : Nat → Int32) (nfM_r : Nat → Int32) (nfM_fresh : Nat → Int32) (nfM_told : Nat → Int32) (nfM_read : Nat → Int32) (nfM_st : Nat → Int32) (nfM_fresher : Nat → Int32), (0 ≤ niM_taped.toInt ∧ niM_taped.toInt ≤ 900) ∧ (0 ≤ niM_size.toInt ∧ niM_size.toInt ≤ 900) ∧ (0 ≤ niM_end.toInt ∧ niM_end.toInt ≤ 900) ∧ (0 ≤ niM_nameSize.toInt ∧ niM_nameSize.toInt ≤ 900) ∧ (0 ≤ niM_failed.toInt ∧ niM_failed.toInt ≤ 1) ∧ (0 ≤ niM_hasCourt.toInt ∧ niM_hasCourt.toInt ≤ 1) ∧ (0 ≤ niM_undos.toInt ∧ niM_undos.toInt ≤ 16) ∧ (0 ≤ niM_images.toInt ∧ niM_images.toInt ≤ 3) ∧ (1 ≤ niM_scale.toInt ∧ niM_scale.toInt ≤ 1296) ∧ (ROk nfM_r) ∧ (niM_hasCourt.toInt ≤ 0 ∨ (1 ≤ (nfM_r 1).toInt ∧ 0 ≤ (nfM_r 6).toInt ∧ (nfM_r 6).toInt < (nfM_r 1).toInt)) ∧ (RowOk nfM_r nfM_st) ∧ (RowOk nfM_r nfM_told) ∧ (WorOk nfM_st) ∧ (HistOk nfM_r fM_undone niM_undos.toInt) ∧ (HistOk nfM_r fM_kept niM_images.toInt) ∧ (ImpP (niM_token.toInt = 2) (niM_nameSize.toInt ≤ 8)) ∧ ((0 ≤ p0.toInt ∧ p0.toInt ≤ iM_taped.toInt ∧ niM_taped.toInt = 0) ∨ ((p0.toInt < 0 ∨ iM_taped.toInt < p0.toInt) ∧ niM_taped.toInt = iM_taped.toInt)) ∧ (PX7_court fM_tape iM_taped iM_size iM_at iM_end iM_token iM_whole iM_nameSize iM_fault iM_place fM_letters iM_failed iM_hasCourt fM_r fM_fresh fM_told fM_read fM_st iM_undos iM_images fM_fresher iM_fresherSize iM_scale p0 = (Int32.ofNat u, niM_thrown, niM_taped, niM_size, niM_at, niM_end, niM_token, niM_whole, niM_nameSize, niM_fault, niM_place, niM_trouble, niM_failed, niM_hasCourt, niM_undos, niM_images, niM_fresherSize, niM_scale, nfM_letters, nfM_r, nfM_fresh, nfM_told, nfM_read, nfM_st, nfM_fresher)) ∧ Bw dC dI A [(oc7 oM niM_thrown rM_tape niM_taped niM_size niM_at niM_end niM_token niM_whole niM_nameSize niM_fault niM_place niM_trouble rM_letters niM_failed niM_hasCourt rM_r rM_fresh rM_told rM_read rM_st rM_undone rM_kept niM_undos niM_images rM_fresher niM_fresherSize niM_scale iM_night rM_heardRow rM_cutRow iM_breaths iM_cutMany iM_allBreaths rM_trial rM_words iM_fewestBreaths iM_orderMany iM_orderSum iM_leastOrder rM_often iM_setMany iM_someOf iM_allOf iM_allWeight iM_enoughWeight iM_worthSum iM_firstRest iM_leastDrawn), (arI rM_tape kM_tape 900 fM_tape), (arI rM_letters kM_letters 8 nfM_letters), (arI rM_r kM_r 287 nfM_r), (arI rM_fresh kM_fresh 287 nfM_fresh), (arI rM_told kM_told 90 nfM_told), (arI rM_read kM_read 90 nfM_read), (arI rM_st kM_st 90 nfM_st), (arI rM_undone kM_undone 1440 fM_undone), (arI rM_kept kM_kept 270 fM_kept), (arI rM_fresher kM_fresher 8 nfM_fresher)] [(kM_tape, .int), (kM_letters, .int), (kM_r, .int), (kM_fresh, .int), (kM_told, .int), (kM_read, .int), (kM_st, .int), (kM_undone, .int), (kM_kept, .int), (kM_fresher, .int)] t) A) ([.ref oM, .int p0] : List Value).toArray s 0 0 A) (F0 m 39 ls []) := by
        intro n_7265
        induction n_7265 with
        | zero => intro z_7263 f_7264 H locs ls hi0_n_7265 hi1_n_7265 hm; exact absurd hm (Nat.not_lt_zero _)
        | succ n_7265 ih_n_7265 =>
          intro z_7263 f_7264 H locs ls hi0_n_7265 hi1_n_7265 hm_n_7265 hG hP hD hS hl
          have hG := hG.trans (HX7_court_0_eq _ _ _ _ _ _ _ _ _ _ _ _ _ _ _ _ _ _ _)
          refine lv_iload_n hx hb dX7_court_39 rfl (lv_at hl 0 rfl) ?_
          refine lv_sipush (v := 287) hx hb dX7_court_40 (by decide) ?_
          refine lv_icmp_ge (tgt := 59) hx hb dX7_court_43 (by decide) (fun c_7266 => ?_) (fun c_7266 => ?_)
          · skip
            have hG := hG.trans (if_pos c_7266)
            have gc_7266 := ti_le c_7266 kc_287 rfl
            refine lv_iconst (v := 0) hx hb dX7_court_59 (by decide) ?_
            refine lv_istore_n (lv' := [(2, .int 0), (0, .ref oM), (1, .int p0)]) hx hb dX7_court_60 rfl hl (by decide) rfl (fun ls hl => ?_)
            have hl := lv_sub hl (l' := [(2, .int 0), (0, .ref oM), (1, .int p0)]) [0, 1, 2] rfl
            have key_n_7269 : ∀ (n_7269 : Nat) (z_7267 : Int32) (f_7268 : Nat → Int32) (H : Heap) (locs : List Loc) (ls : Array Slot), (0 ≤ z_7267.toInt ∧ z_7267.toInt ≤ 90) → (ZerI z_7267.toNatClampNeg f_7268) → (90 - z_7267.toInt).toNat < n_7269 → (PX7_court fM_tape iM_taped iM_size iM_at iM_end iM_token iM_whole iM_nameSize iM_fault iM_place fM_letters iM_failed iM_hasCourt fM_r fM_fresh fM_told fM_read fM_st iM_undos iM_images fM_fresher iM_fresherSize iM_scale p0 = HX7_court_1 fM_tape iM_place fM_letters iM_hasCourt fM_r fM_told fM_st iM_undos iM_images fM_fresher iM_fresherSize iM_scale p0 x_7259 x_7260 f_7264 n_7269 z_7267 f_7268) → va_P (dC, dI) vwCl [(oc7 oM x_7259 rM_tape 0 iM_size iM_at iM_end iM_token iM_whole iM_nameSize 0 iM_place x_7260 rM_letters 0 iM_hasCourt rM_r rM_fresh rM_told rM_read rM_st rM_undone rM_kept iM_undos iM_images rM_fresher iM_fresherSize iM_scale iM_night rM_heardRow rM_cutRow iM_breaths iM_cutMany iM_allBreaths rM_trial rM_words iM_fewestBreaths iM_orderMany iM_orderSum iM_leastOrder rM_often iM_setMany iM_someOf iM_allOf iM_allWeight iM_enoughWeight iM_worthSum iM_firstRest iM_leastDrawn), (arI rM_tape kM_tape 900 fM_tape), (arI rM_letters kM_letters 8 fM_letters), (arI rM_r kM_r 287 fM_r), (arI rM_fresh kM_fresh 287 f_7264), (arI rM_told kM_told 90 fM_told), (arI rM_read kM_read 90 f_7268), (arI rM_st kM_st 90 fM_st), (arI rM_undone kM_undone 1440 fM_undone), (arI rM_kept kM_kept 270 fM_kept), (arI rM_fresher kM_fresher 8 fM_fresher)] H → va_D A [(oc7 oM x_7259 rM_tape 0 iM_size iM_at iM_end iM_token iM_whole iM_nameSize 0 iM_place x_7260 rM_letters 0 iM_hasCourt rM_r rM_fresh rM_told rM_read rM_st rM_undone rM_kept iM_undos iM_images rM_fresher iM_fresherSize iM_scale iM_night rM_heardRow rM_cutRow iM_breaths iM_cutMany iM_allBreaths rM_trial rM_words iM_fewestBreaths iM_orderMany iM_orderSum iM_leastOrder rM_often iM_setMany iM_someOf iM_allOf iM_allWeight iM_enoughWeight iM_worthSum iM_firstRest iM_leastDrawn), (arI rM_tape kM_tape 900 fM_tape), (arI rM_letters kM_letters 8 fM_letters), (arI rM_r kM_r 287 fM_r), (arI rM_fresh kM_fresh 287 f_7264), (arI rM_told kM_told 90 fM_told), (arI rM_read kM_read 90 f_7268), (arI rM_st kM_st 90 fM_st), (arI rM_undone kM_undone 1440 fM_undone), (arI rM_kept kM_kept 270 fM_kept), (arI rM_fresher kM_fresher 8 fM_fresher)] → va_S A s.heap H locs → lv_has ls 3 [(2, .int z_7267), (0, .ref oM), (1, .int p0)] → W p l e (headSpec (Cond.code yX7_court cX7_court 3 (some .int) :: wG) ({ frames := 10, cells := 0, slots := 0, locals := 240 })).room s m ([.ref oM, .int p0] : List Value).toArray below meth c H locs 0 0 (MQ below (va_Qi (fun (r : Int32) (u : Nat) => (True ∧ True) ∧ r = Int32.ofNat u) (fun (u : Nat) (t : State) => ∃ (niM_thrown : Int32) (niM_taped : Int32) (niM_size : Int32) (niM_at : Int32) (niM_end : Int32) (niM_token : Int32) (niM_whole : Int32) (niM_nameSize : Int32) (niM_fault : Int32) (niM_place : Int32) (niM_trouble : Int32) (niM_failed : Int32) (niM_hasCourt : Int32) (niM_undos : Int32) (niM_images : Int32) (niM_fresherSize : Int32) (niM_scale : Int32) (nfM_letters : Nat → Int32) (nfM_r : Nat → Int32) (nfM_fresh : Nat → Int32) (nfM_told : Nat → Int32) (nfM_read : Nat → Int32) (nfM_st : Nat → Int32) (nfM_fresher : Nat → Int32), (0 ≤ niM_taped.toInt ∧ niM_taped.toInt ≤ 900) ∧ (0 ≤ niM_size.toInt ∧ niM_size.toInt ≤ 900) ∧ (0 ≤ niM_end.toInt ∧ niM_end.toInt ≤ 900) ∧ (0 ≤ niM_nameSize.toInt ∧ niM_nameSize.toInt ≤ 900) ∧ (0 ≤ niM_failed.toInt ∧ niM_failed.toInt ≤ 1) ∧ (0 ≤ niM_hasCourt.toInt ∧ niM_hasCourt.toInt ≤ 1) ∧ (0 ≤ niM_undos.toInt ∧ niM_undos.toInt ≤ 16) ∧ (0 ≤ niM_images.toInt ∧ niM_images.toInt ≤ 3) ∧ (1 ≤ niM_scale.toInt ∧ niM_scale.toInt ≤ 1296) ∧ (ROk nfM_r) ∧ (niM_hasCourt.toInt ≤ 0 ∨ (1 ≤ (nfM_r 1).toInt ∧ 0 ≤ (nfM_r 6).toInt ∧ (nfM_r 6).toInt < (nfM_r 1).toInt)) ∧ (RowOk nfM_r nfM_st) ∧ (RowOk nfM_r nfM_told) ∧ (WorOk nfM_st) ∧ (HistOk nfM_r fM_undone niM_undos.toInt) ∧ (HistOk nfM_r fM_kept niM_images.toInt) ∧ (ImpP (niM_token.toInt = 2) (niM_nameSize.toInt ≤ 8)) ∧ ((0 ≤ p0.toInt ∧ p0.toInt ≤ iM_taped.toInt ∧ niM_taped.toInt = 0) ∨ ((p0.toInt < 0 ∨ iM_taped.toInt < p0.toInt) ∧ niM_taped.toInt = iM_taped.toInt)) ∧ (PX7_court fM_tape iM_taped iM_size iM_at iM_end iM_token iM_whole iM_nameSize iM_fault iM_place fM_letters iM_failed iM_hasCourt fM_r fM_fresh fM_told fM_read fM_st iM_undos iM_images fM_fresher iM_fresherSize iM_scale p0 = (Int32.ofNat u, niM_thrown, niM_taped, niM_size, niM_at, niM_end, niM_token, niM_whole, niM_nameSize, niM_fault, niM_place, niM_trouble, niM_failed, niM_hasCourt, niM_undos, niM_images, niM_fresherSize, niM_scale, nfM_letters, nfM_r, nfM_fresh, nfM_told, nfM_read, nfM_st, nfM_fresher)) ∧ Bw dC dI A [(oc7 oM niM_thrown rM_tape niM_taped niM_size niM_at niM_end niM_token niM_whole niM_nameSize niM_fault niM_place niM_trouble rM_letters niM_failed niM_hasCourt rM_r rM_fresh rM_told rM_read rM_st rM_undone rM_kept niM_undos niM_images rM_fresher niM_fresherSize niM_scale iM_night rM_heardRow rM_cutRow iM_breaths iM_cutMany iM_allBreaths rM_trial rM_words iM_fewestBreaths iM_orderMany iM_orderSum iM_leastOrder rM_often iM_setMany iM_someOf iM_allOf iM_allWeight iM_enoughWeight iM_worthSum iM_firstRest iM_leastDrawn), (arI rM_tape kM_tape 900 fM_tape), (arI rM_letters kM_letters 8 nfM_letters), (arI rM_r kM_r 287 nfM_r), (arI rM_fresh kM_fresh 287 nfM_fresh), (arI rM_told kM_told 90 nfM_told), (arI rM_read kM_read 90 nfM_read), (arI rM_st kM_st 90 nfM_st), (arI rM_undone kM_undone 1440 fM_undone), (arI rM_kept kM_kept 270 fM_kept), (arI rM_fresher kM_fresher 8 nfM_fresher)] [(kM_tape, .int), (kM_letters, .int), (kM_r, .int), (kM_fresh, .int), (kM_told, .int), (kM_read, .int), (kM_st, .int), (kM_undone, .int), (kM_kept, .int), (kM_fresher, .int)] t) A) ([.ref oM, .int p0] : List Value).toArray s 0 0 A) (F0 m 61 ls []) := by
              intro n_7269
              induction n_7269 with
              | zero => intro z_7267 f_7268 H locs ls hi0_n_7269 hi1_n_7269 hm; exact absurd hm (Nat.not_lt_zero _)
              | succ n_7269 ih_n_7269 =>
                intro z_7267 f_7268 H locs ls hi0_n_7269 hi1_n_7269 hm_n_7269 hG hP hD hS hl
                have hG := hG.trans (HX7_court_1_eq _ _ _ _ _ _ _ _ _ _ _ _ _ _ _ _ _ _ _)
                refine lv_iload_n hx hb dX7_court_61 rfl (lv_at hl 0 rfl) ?_
                refine lv_bipush (v := 90) hx hb dX7_court_62 (by decide) ?_
                refine lv_icmp_ge (tgt := 80) hx hb dX7_court_64 (by decide) (fun c_7270 => ?_) (fun c_7270 => ?_)
                · skip
                  have hG := hG.trans (if_pos c_7270)
                  have gc_7270 := ti_le c_7270 kc_90 rfl
                  refine lv_aload_n hx hb dX7_court_80 rfl (lv_at hl 1 rfl) ?_
                  refine va_get (D := (dC, dI)) (ci := 7) (v := .ref rM_fresh) (C := RX7) (T := TX7) (N := 48) hx hb hts inX7 hown hK hP 0 rfl rfl 16 (by decide) (hts _ wd_156) (fun _ h9 => h9) rfl dX7_court_81 ?_
                  refine lv_bipush (v := 6) hx hb dX7_court_84 (by decide) ?_
                  refine lv_iconst (v := (-1)) hx hb dX7_court_86 (by decide) ?_
                  refine va_iast hx hb hK hP hD hS 4 3 rfl rfl (by unfold vp_in; decide) dX7_court_87 (fun H locs hP hD hS => ?_)
                  obtain ⟨f_7271, ef_7271⟩ : ∃ g : Nat → Int32, g = upd f_7264 (6 : Int32).toNatClampNeg ((-1) : Int32) := ⟨_, rfl⟩
                  rw [← ef_7271] at hP hD
                  have hG := hG.trans (lt_eq ef_7271)
                  obtain ⟨hP, hD⟩ := wl2 (ws' := [(oc7 oM x_7259 rM_tape 0 iM_size iM_at iM_end iM_token iM_whole iM_nameSize 0 iM_place x_7260 rM_letters 0 iM_hasCourt rM_r rM_fresh rM_told rM_read rM_st rM_undone rM_kept iM_undos iM_images rM_fresher iM_fresherSize iM_scale iM_night rM_heardRow rM_cutRow iM_breaths iM_cutMany iM_allBreaths rM_trial rM_words iM_fewestBreaths iM_orderMany iM_orderSum iM_leastOrder rM_often iM_setMany iM_someOf iM_allOf iM_allWeight iM_enoughWeight iM_worthSum iM_firstRest iM_leastDrawn), (arI rM_tape kM_tape 900 fM_tape), (arI rM_letters kM_letters 8 fM_letters), (arI rM_r kM_r 287 fM_r), (arI rM_fresh kM_fresh 287 f_7271), (arI rM_told kM_told 90 fM_told), (arI rM_read kM_read 90 f_7268), (arI rM_st kM_st 90 fM_st), (arI rM_undone kM_undone 1440 fM_undone), (arI rM_kept kM_kept 270 fM_kept), (arI rM_fresher kM_fresher 8 fM_fresher)]) hP hD rfl
                  have zf9 : ZerI 287 f_7264 := by have h8 := hi1_n_7265; rw [show z_7263.toNatClampNeg = 287 from by have q1 := ti_cl (x := z_7263) rfl hi0_n_7265.1; omega] at h8; exact h8
                  have zr9 : ZerI 90 f_7268 := by have h8 := hi1_n_7269; rw [show z_7267.toNatClampNeg = 90 from by have q1 := ti_cl (x := z_7267) rfl hi0_n_7269.1; omega] at h8; exact h8
                  have pk_f_7271 : POk f_7271 f_7268 := POk.zero zf9 ef_7271 rfl kc_m1 zr9
                  have pl_f_7271 := pk_f_7271.lins
                  refine lv_aload_n hx hb dX7_court_88 rfl (lv_at hl 1 rfl) ?_
                  refine lv_iload_n hx hb dX7_court_89 rfl (lv_at hl 2 rfl) ?_
                  refine va_put (D := (dC, dI)) (ci := 7) (v := .int p0) (ty := .int) (C := RX7) (T := TX7) (N := 48) hx hb hts inX7 tyX7 tyX7_ok nmX7 hown hK hP hD hS 0 rfl rfl 3 (by decide) (hts _ wd_381) (fun _ h9 => h9) rfl (by decide +kernel) rfl rfl (Nat.le_of_ble_eq_true rfl) dX7_court_90 (fun H locs hP hD hS => ?_)
                  obtain ⟨hP, hD⟩ := wl2 (ws' := [(oc7 oM x_7259 rM_tape 0 p0 iM_at iM_end iM_token iM_whole iM_nameSize 0 iM_place x_7260 rM_letters 0 iM_hasCourt rM_r rM_fresh rM_told rM_read rM_st rM_undone rM_kept iM_undos iM_images rM_fresher iM_fresherSize iM_scale iM_night rM_heardRow rM_cutRow iM_breaths iM_cutMany iM_allBreaths rM_trial rM_words iM_fewestBreaths iM_orderMany iM_orderSum iM_leastOrder rM_often iM_setMany iM_someOf iM_allOf iM_allWeight iM_enoughWeight iM_worthSum iM_firstRest iM_leastDrawn), (arI rM_tape kM_tape 900 fM_tape), (arI rM_letters kM_letters 8 fM_letters), (arI rM_r kM_r 287 fM_r), (arI rM_fresh kM_fresh 287 f_7271), (arI rM_told kM_told 90 fM_told), (arI rM_read kM_read 90 f_7268), (arI rM_st kM_st 90 fM_st), (arI rM_undone kM_undone 1440 fM_undone), (arI rM_kept kM_kept 270 fM_kept), (arI rM_fresher kM_fresher 8 fM_fresher)]) hP hD rfl
                  refine lv_aload_n hx hb dX7_court_93 rfl (lv_at hl 1 rfl) ?_
                  refine lv_iconst (v := 0) hx hb dX7_court_94 (by decide) ?_
                  refine va_put (D := (dC, dI)) (ci := 7) (v := .int 0) (ty := .int) (C := RX7) (T := TX7) (N := 48) hx hb hts inX7 tyX7 tyX7_ok nmX7 hown hK hP hD hS 0 rfl rfl 5 (by decide) (hts _ wd_382) (fun _ h9 => h9) rfl (by decide +kernel) rfl rfl (Nat.le_of_ble_eq_true rfl) dX7_court_95 (fun H locs hP hD hS => ?_)
                  obtain ⟨hP, hD⟩ := wl2 (ws' := [(oc7 oM x_7259 rM_tape 0 p0 iM_at 0 iM_token iM_whole iM_nameSize 0 iM_place x_7260 rM_letters 0 iM_hasCourt rM_r rM_fresh rM_told rM_read rM_st rM_undone rM_kept iM_undos iM_images rM_fresher iM_fresherSize iM_scale iM_night rM_heardRow rM_cutRow iM_breaths iM_cutMany iM_allBreaths rM_trial rM_words iM_fewestBreaths iM_orderMany iM_orderSum iM_leastOrder rM_often iM_setMany iM_someOf iM_allOf iM_allWeight iM_enoughWeight iM_worthSum iM_firstRest iM_leastDrawn), (arI rM_tape kM_tape 900 fM_tape), (arI rM_letters kM_letters 8 fM_letters), (arI rM_r kM_r 287 fM_r), (arI rM_fresh kM_fresh 287 f_7271), (arI rM_told kM_told 90 fM_told), (arI rM_read kM_read 90 f_7268), (arI rM_st kM_st 90 fM_st), (arI rM_undone kM_undone 1440 fM_undone), (arI rM_kept kM_kept 270 fM_kept), (arI rM_fresher kM_fresher 8 fM_fresher)]) hP hD rfl
                  refine lv_aload_n hx hb dX7_court_98 rfl (lv_at hl 1 rfl) ?_
                  have hMs := ml_of hD [true, true, true, false, false, false, false, false, false, false, false] (wc := [(oc7 oM x_7259 rM_tape 0 p0 iM_at 0 iM_token iM_whole iM_nameSize 0 iM_place x_7260 rM_letters 0 iM_hasCourt rM_r rM_fresh rM_told rM_read rM_st rM_undone rM_kept iM_undos iM_images rM_fresher iM_fresherSize iM_scale iM_night rM_heardRow rM_cutRow iM_breaths iM_cutMany iM_allBreaths rM_trial rM_words iM_fewestBreaths iM_orderMany iM_orderSum iM_leastOrder rM_often iM_setMany iM_someOf iM_allOf iM_allWeight iM_enoughWeight iM_worthSum iM_firstRest iM_leastDrawn), (arI rM_tape kM_tape 900 fM_tape), (arI rM_letters kM_letters 8 fM_letters)]) rfl
                  have hFc := va_freeM hD hS hA _ hMs
                  refine va_callv (va_runV (As := []) (rest := []) ⟨hx, hb, hml, hown, hts⟩ (tX7_next l dC dI _ oM x_7259 rM_tape fM_tape kM_tape 0 p0 iM_at 0 iM_token iM_whole iM_nameSize 0 iM_place x_7260 rM_letters fM_letters kM_letters 0 iM_hasCourt rM_r rM_fresh rM_told rM_read rM_st rM_undone rM_kept iM_undos iM_images rM_fresher iM_fresherSize iM_scale iM_night rM_heardRow rM_cutRow iM_breaths iM_cutMany iM_allBreaths rM_trial rM_words iM_fewestBreaths iM_orderMany iM_orderSum iM_leastOrder rM_often iM_setMany iM_someOf iM_allOf iM_allWeight iM_enoughWeight iM_worthSum iM_firstRest iM_leastDrawn (by first | decide | omega) (by first | exact ⟨by omega, by omega⟩ | omega | decide) (by first | decide | omega) b_iM_nameSize (by first | decide | omega) b_iM_hasCourt b_iM_undos b_iM_images b_iM_scale b_iM_breaths b_iM_cutMany r_T) (cwV 0 hts (wd_V wd_400 wd_401 wd_402 wd_5 (wd_c wd_403)) rfl rfl rfl dv_yX7_next_0 ⟨Nat.le_of_ble_eq_true rfl, Nat.le_of_ble_eq_true rfl⟩) ⟨Pw.fb, recvX7 hK hP (q0 := 0) rfl, fun U hU hW => Pw.to (hP.ms _ hMs) (hD.ms _ hMs) (hK.ms [true, true, false, false, false, false, false, false, false, false] rfl) hE hS hFc hU hW⟩ rfl rfl hl.1 rfl (lv_room (Nat.le_of_ble_eq_true rfl)) dX7_court_99 ⟨Nat.le_of_ble_eq_true rfl, Nat.le_of_ble_eq_true rfl⟩) hS (fun q _ h => hFc q h) hFc (fun u t H locs ht hvm hw hB hz1 hk1 hS => ?_)
                  refine ex_6_6 hB (fun x_7272 x_7273 x_7274 x_7275 x_7276 f_7277 b_x_7273 b_x_7276 e_x_7272_0 e_x_7272_1 e_x_7272_2 e_x_7272_3 hB => ?_)
                  obtain ⟨hP, hD⟩ := Bw.goN (ws' := [(oc7 oM x_7259 rM_tape 0 p0 x_7272 x_7273 x_7274 x_7275 x_7276 0 iM_place x_7260 rM_letters 0 iM_hasCourt rM_r rM_fresh rM_told rM_read rM_st rM_undone rM_kept iM_undos iM_images rM_fresher iM_fresherSize iM_scale iM_night rM_heardRow rM_cutRow iM_breaths iM_cutMany iM_allBreaths rM_trial rM_words iM_fewestBreaths iM_orderMany iM_orderSum iM_leastOrder rM_often iM_setMany iM_someOf iM_allOf iM_allWeight iM_enoughWeight iM_worthSum iM_firstRest iM_leastDrawn), (arI rM_tape kM_tape 900 fM_tape), (arI rM_letters kM_letters 8 f_7277), (arI rM_r kM_r 287 fM_r), (arI rM_fresh kM_fresh 287 f_7271), (arI rM_told kM_told 90 fM_told), (arI rM_read kM_read 90 f_7268), (arI rM_st kM_st 90 fM_st), (arI rM_undone kM_undone 1440 fM_undone), (arI rM_kept kM_kept 270 fM_kept), (arI rM_fresher kM_fresher 8 fM_fresher)]) hB rfl ht hP hD _ hMs hk1 hFc rfl
                  clear hz1 hk1 hvm ht hB hMs
                  have hG := hG.trans (un6_eq e_x_7272_3)
                  clear r_T
                  refine lv_aload_n hx hb dX7_court_102 rfl (lv_at hl 1 rfl) ?_
                  have hMs := ml_of hD [true, true, true, false, true, false, true, false, false, false, true] (wc := [(oc7 oM x_7259 rM_tape 0 p0 x_7272 x_7273 x_7274 x_7275 x_7276 0 iM_place x_7260 rM_letters 0 iM_hasCourt rM_r rM_fresh rM_told rM_read rM_st rM_undone rM_kept iM_undos iM_images rM_fresher iM_fresherSize iM_scale iM_night rM_heardRow rM_cutRow iM_breaths iM_cutMany iM_allBreaths rM_trial rM_words iM_fewestBreaths iM_orderMany iM_orderSum iM_leastOrder rM_often iM_setMany iM_someOf iM_allOf iM_allWeight iM_enoughWeight iM_worthSum iM_firstRest iM_leastDrawn), (arI rM_tape kM_tape 900 fM_tape), (arI rM_letters kM_letters 8 f_7277), (arI rM_fresh kM_fresh 287 f_7271), (arI rM_read kM_read 90 f_7268), (arI rM_fresher kM_fresher 8 fM_fresher)]) rfl
                  have hFc := va_freeM hD hS hA _ hMs
                  refine va_callv (va_runV (As := []) (rest := []) ⟨hx, hb, hml, hown, hts⟩ (tX7_readLine l dC dI _ oM x_7259 rM_tape fM_tape kM_tape 0 p0 x_7272 x_7273 x_7274 x_7275 x_7276 0 iM_place x_7260 rM_letters f_7277 kM_letters 0 iM_hasCourt rM_r rM_fresh f_7271 kM_fresh rM_told rM_read f_7268 kM_read rM_st rM_undone rM_kept iM_undos iM_images rM_fresher fM_fresher kM_fresher iM_fresherSize iM_scale iM_night rM_heardRow rM_cutRow iM_breaths iM_cutMany iM_allBreaths rM_trial rM_words iM_fewestBreaths iM_orderMany iM_orderSum iM_leastOrder rM_often iM_setMany iM_someOf iM_allOf iM_allWeight iM_enoughWeight iM_worthSum iM_firstRest iM_leastDrawn (by first | decide | omega) (by first | exact ⟨by omega, by omega⟩ | omega | decide) b_x_7273 b_x_7276 (by first | decide | omega) b_iM_hasCourt b_iM_undos b_iM_images b_iM_scale b_iM_breaths b_iM_cutMany e_x_7272_1 pk_f_7271) (cwV 0 hts (wd_V wd_416 wd_417 wd_418 wd_5 (wd_c wd_419)) rfl rfl rfl dv_yX7_readLine_0 ⟨Nat.le_of_ble_eq_true rfl, Nat.le_of_ble_eq_true rfl⟩) ⟨Pw.fb, recvX7 hK hP (q0 := 0) rfl, fun U hU hW => Pw.to (hP.ms _ hMs) (hD.ms _ hMs) (hK.ms [true, true, false, true, false, true, false, false, false, true] rfl) hE hS hFc hU hW⟩ rfl rfl hl.1 rfl (lv_room (Nat.le_of_ble_eq_true rfl)) dX7_court_103 ⟨Nat.le_of_ble_eq_true rfl, Nat.le_of_ble_eq_true rfl⟩) hS (fun q _ h => hFc q h) hFc (fun u t H locs ht hvm hw hB hz1 hk1 hS => ?_)
                  refine ex_13_9 hB (fun x_7278 x_7279 x_7280 x_7281 x_7282 x_7283 x_7284 x_7285 x_7286 f_7287 f_7288 f_7289 f_7290 b_x_7279 b_x_7282 b_x_7285 e_x_7278_0 e_x_7278_1 e_x_7278_2 e_x_7278_3 e_x_7278_4 e_x_7278_5 hB => ?_)
                  obtain ⟨hP, hD⟩ := Bw.goN (ws' := [(oc7 oM x_7259 rM_tape 0 p0 x_7278 x_7279 x_7280 x_7281 x_7282 x_7283 x_7284 x_7260 rM_letters x_7285 iM_hasCourt rM_r rM_fresh rM_told rM_read rM_st rM_undone rM_kept iM_undos iM_images rM_fresher x_7286 iM_scale iM_night rM_heardRow rM_cutRow iM_breaths iM_cutMany iM_allBreaths rM_trial rM_words iM_fewestBreaths iM_orderMany iM_orderSum iM_leastOrder rM_often iM_setMany iM_someOf iM_allOf iM_allWeight iM_enoughWeight iM_worthSum iM_firstRest iM_leastDrawn), (arI rM_tape kM_tape 900 fM_tape), (arI rM_letters kM_letters 8 f_7287), (arI rM_r kM_r 287 fM_r), (arI rM_fresh kM_fresh 287 f_7288), (arI rM_told kM_told 90 fM_told), (arI rM_read kM_read 90 f_7289), (arI rM_st kM_st 90 fM_st), (arI rM_undone kM_undone 1440 fM_undone), (arI rM_kept kM_kept 270 fM_kept), (arI rM_fresher kM_fresher 8 f_7290)]) hB rfl ht hP hD _ hMs hk1 hFc rfl
                  clear hz1 hk1 hvm ht hB hMs
                  have pl_f_7288 := e_x_7278_4.lins
                  have hG := hG.trans (un13_eq e_x_7278_5)
                  clear e_x_7272_1
                  clear e_x_7272_2
                  have hl := lv_sub hl (l' := [(2, .int z_7267), (0, .ref oM), (1, .int p0)]) [0, 1, 2] rfl
                  have key_n_7304 : ∀ (n_7304 : Nat) (z_7291 : Int32) (z_7292 : Int32) (z_7293 : Int32) (z_7294 : Int32) (z_7295 : Int32) (z_7296 : Int32) (z_7297 : Int32) (z_7298 : Int32) (z_7299 : Int32) (f_7300 : Nat → Int32) (f_7301 : Nat → Int32) (f_7302 : Nat → Int32) (f_7303 : Nat → Int32) (H : Heap) (locs : List Loc) (ls : Array Slot), (0 ≤ z_7292.toInt ∧ z_7292.toInt ≤ 900) → (0 ≤ z_7295.toInt ∧ z_7295.toInt ≤ 900) → (0 ≤ z_7298.toInt ∧ z_7298.toInt ≤ 1) → (POk f_7301 f_7302) → (ImpP (z_7293.toInt = 2) (z_7295.toInt ≤ 8)) → crtM z_7298.toInt z_7293.toInt z_7292.toInt < n_7304 → (PX7_court fM_tape iM_taped iM_size iM_at iM_end iM_token iM_whole iM_nameSize iM_fault iM_place fM_letters iM_failed iM_hasCourt fM_r fM_fresh fM_told fM_read fM_st iM_undos iM_images fM_fresher iM_fresherSize iM_scale p0 = HX7_court_2 fM_tape iM_hasCourt fM_r fM_told fM_st iM_undos iM_images iM_scale p0 x_7259 x_7260 n_7304 z_7291 z_7292 z_7293 z_7294 z_7295 z_7296 z_7297 z_7298 z_7299 f_7300 f_7301 f_7302 f_7303) → va_P (dC, dI) vwCl [(oc7 oM x_7259 rM_tape 0 p0 z_7291 z_7292 z_7293 z_7294 z_7295 z_7296 z_7297 x_7260 rM_letters z_7298 iM_hasCourt rM_r rM_fresh rM_told rM_read rM_st rM_undone rM_kept iM_undos iM_images rM_fresher z_7299 iM_scale iM_night rM_heardRow rM_cutRow iM_breaths iM_cutMany iM_allBreaths rM_trial rM_words iM_fewestBreaths iM_orderMany iM_orderSum iM_leastOrder rM_often iM_setMany iM_someOf iM_allOf iM_allWeight iM_enoughWeight iM_worthSum iM_firstRest iM_leastDrawn), (arI rM_tape kM_tape 900 fM_tape), (arI rM_letters kM_letters 8 f_7300), (arI rM_r kM_r 287 fM_r), (arI rM_fresh kM_fresh 287 f_7301), (arI rM_told kM_told 90 fM_told), (arI rM_read kM_read 90 f_7302), (arI rM_st kM_st 90 fM_st), (arI rM_undone kM_undone 1440 fM_undone), (arI rM_kept kM_kept 270 fM_kept), (arI rM_fresher kM_fresher 8 f_7303)] H → va_D A [(oc7 oM x_7259 rM_tape 0 p0 z_7291 z_7292 z_7293 z_7294 z_7295 z_7296 z_7297 x_7260 rM_letters z_7298 iM_hasCourt rM_r rM_fresh rM_told rM_read rM_st rM_undone rM_kept iM_undos iM_images rM_fresher z_7299 iM_scale iM_night rM_heardRow rM_cutRow iM_breaths iM_cutMany iM_allBreaths rM_trial rM_words iM_fewestBreaths iM_orderMany iM_orderSum iM_leastOrder rM_often iM_setMany iM_someOf iM_allOf iM_allWeight iM_enoughWeight iM_worthSum iM_firstRest iM_leastDrawn), (arI rM_tape kM_tape 900 fM_tape), (arI rM_letters kM_letters 8 f_7300), (arI rM_r kM_r 287 fM_r), (arI rM_fresh kM_fresh 287 f_7301), (arI rM_told kM_told 90 fM_told), (arI rM_read kM_read 90 f_7302), (arI rM_st kM_st 90 fM_st), (arI rM_undone kM_undone 1440 fM_undone), (arI rM_kept kM_kept 270 fM_kept), (arI rM_fresher kM_fresher 8 f_7303)] → va_S A s.heap H locs → lv_has ls 3 [(2, .int z_7267), (0, .ref oM), (1, .int p0)] → W p l e (headSpec (Cond.code yX7_court cX7_court 3 (some .int) :: wG) ({ frames := 10, cells := 0, slots := 0, locals := 240 })).room s m ([.ref oM, .int p0] : List Value).toArray below meth c H locs 0 0 (MQ below (va_Qi (fun (r : Int32) (u : Nat) => (True ∧ True) ∧ r = Int32.ofNat u) (fun (u : Nat) (t : State) => ∃ (niM_thrown : Int32) (niM_taped : Int32) (niM_size : Int32) (niM_at : Int32) (niM_end : Int32) (niM_token : Int32) (niM_whole : Int32) (niM_nameSize : Int32) (niM_fault : Int32) (niM_place : Int32) (niM_trouble : Int32) (niM_failed : Int32) (niM_hasCourt : Int32) (niM_undos : Int32) (niM_images : Int32) (niM_fresherSize : Int32) (niM_scale : Int32) (nfM_letters : Nat → Int32) (nfM_r : Nat → Int32) (nfM_fresh : Nat → Int32) (nfM_told : Nat → Int32) (nfM_read : Nat → Int32) (nfM_st : Nat → Int32) (nfM_fresher : Nat → Int32), (0 ≤ niM_taped.toInt ∧ niM_taped.toInt ≤ 900) ∧ (0 ≤ niM_size.toInt ∧ niM_size.toInt ≤ 900) ∧ (0 ≤ niM_end.toInt ∧ niM_end.toInt ≤ 900) ∧ (0 ≤ niM_nameSize.toInt ∧ niM_nameSize.toInt ≤ 900) ∧ (0 ≤ niM_failed.toInt ∧ niM_failed.toInt ≤ 1) ∧ (0 ≤ niM_hasCourt.toInt ∧ niM_hasCourt.toInt ≤ 1) ∧ (0 ≤ niM_undos.toInt ∧ niM_undos.toInt ≤ 16) ∧ (0 ≤ niM_images.toInt ∧ niM_images.toInt ≤ 3) ∧ (1 ≤ niM_scale.toInt ∧ niM_scale.toInt ≤ 1296) ∧ (ROk nfM_r) ∧ (niM_hasCourt.toInt ≤ 0 ∨ (1 ≤ (nfM_r 1).toInt ∧ 0 ≤ (nfM_r 6).toInt ∧ (nfM_r 6).toInt < (nfM_r 1).toInt)) ∧ (RowOk nfM_r nfM_st) ∧ (RowOk nfM_r nfM_told) ∧ (WorOk nfM_st) ∧ (HistOk nfM_r fM_undone niM_undos.toInt) ∧ (HistOk nfM_r fM_kept niM_images.toInt) ∧ (ImpP (niM_token.toInt = 2) (niM_nameSize.toInt ≤ 8)) ∧ ((0 ≤ p0.toInt ∧ p0.toInt ≤ iM_taped.toInt ∧ niM_taped.toInt = 0) ∨ ((p0.toInt < 0 ∨ iM_taped.toInt < p0.toInt) ∧ niM_taped.toInt = iM_taped.toInt)) ∧ (PX7_court fM_tape iM_taped iM_size iM_at iM_end iM_token iM_whole iM_nameSize iM_fault iM_place fM_letters iM_failed iM_hasCourt fM_r fM_fresh fM_told fM_read fM_st iM_undos iM_images fM_fresher iM_fresherSize iM_scale p0 = (Int32.ofNat u, niM_thrown, niM_taped, niM_size, niM_at, niM_end, niM_token, niM_whole, niM_nameSize, niM_fault, niM_place, niM_trouble, niM_failed, niM_hasCourt, niM_undos, niM_images, niM_fresherSize, niM_scale, nfM_letters, nfM_r, nfM_fresh, nfM_told, nfM_read, nfM_st, nfM_fresher)) ∧ Bw dC dI A [(oc7 oM niM_thrown rM_tape niM_taped niM_size niM_at niM_end niM_token niM_whole niM_nameSize niM_fault niM_place niM_trouble rM_letters niM_failed niM_hasCourt rM_r rM_fresh rM_told rM_read rM_st rM_undone rM_kept niM_undos niM_images rM_fresher niM_fresherSize niM_scale iM_night rM_heardRow rM_cutRow iM_breaths iM_cutMany iM_allBreaths rM_trial rM_words iM_fewestBreaths iM_orderMany iM_orderSum iM_leastOrder rM_often iM_setMany iM_someOf iM_allOf iM_allWeight iM_enoughWeight iM_worthSum iM_firstRest iM_leastDrawn), (arI rM_tape kM_tape 900 fM_tape), (arI rM_letters kM_letters 8 nfM_letters), (arI rM_r kM_r 287 nfM_r), (arI rM_fresh kM_fresh 287 nfM_fresh), (arI rM_told kM_told 90 nfM_told), (arI rM_read kM_read 90 nfM_read), (arI rM_st kM_st 90 nfM_st), (arI rM_undone kM_undone 1440 fM_undone), (arI rM_kept kM_kept 270 fM_kept), (arI rM_fresher kM_fresher 8 nfM_fresher)] [(kM_tape, .int), (kM_letters, .int), (kM_r, .int), (kM_fresh, .int), (kM_told, .int), (kM_read, .int), (kM_st, .int), (kM_undone, .int), (kM_kept, .int), (kM_fresher, .int)] t) A) ([.ref oM, .int p0] : List Value).toArray s 0 0 A) (F0 m 106 ls []) := by
                    intro n_7304
                    induction n_7304 with
                    | zero => intro z_7291 z_7292 z_7293 z_7294 z_7295 z_7296 z_7297 z_7298 z_7299 f_7300 f_7301 f_7302 f_7303 H locs ls b_z_7292 b_z_7295 b_z_7298 hi0_n_7304 hi1_n_7304 hm; exact absurd hm (Nat.not_lt_zero _)
                    | succ n_7304 ih_n_7304 =>
                      intro z_7291 z_7292 z_7293 z_7294 z_7295 z_7296 z_7297 z_7298 z_7299 f_7300 f_7301 f_7302 f_7303 H locs ls b_z_7292 b_z_7295 b_z_7298 hi0_n_7304 hi1_n_7304 hm_n_7304 hG hP hD hS hl
                      have hG := hG.trans (HX7_court_2_eq _ _ _ _ _ _ _ _ _ _ _ _ _ _ _ _ _ _ _ _ _ _ _ _ _)
                      have pl_f_7301 := hi0_n_7304.lins
                      refine lv_aload_n hx hb dX7_court_106 rfl (lv_at hl 1 rfl) ?_
                      refine va_get (D := (dC, dI)) (ci := 7) (v := .int z_7298) (C := RX7) (T := TX7) (N := 48) hx hb hts inX7 hown hK hP 0 rfl rfl 13 (by decide) (hts _ wd_380) (fun _ h9 => h9) rfl dX7_court_107 ?_
                      refine lv_if_ne (tgt := 133) hx hb dX7_court_110 (by decide) (fun c_7305 => ?_) (fun c_7305 => ?_)
                      · skip
                        have hG := hG.trans (if_neg c_7305)
                        have gc_7305 := ti_ne c_7305 rfl kc_0
                        replace gc_7305 : (-1) * z_7298.toInt + 1 ≤ 0 := om_e3003f79 gc_7305 b_z_7298.1
                        refine lv_aload_n hx hb dX7_court_133 rfl (lv_at hl 1 rfl) ?_
                        refine va_get (D := (dC, dI)) (ci := 7) (v := .int z_7298) (C := RX7) (T := TX7) (N := 48) hx hb hts inX7 hown hK hP 0 rfl rfl 13 (by decide) (hts _ wd_380) (fun _ h9 => h9) rfl dX7_court_134 ?_
                        refine lv_if_ne (tgt := 156) hx hb dX7_court_137 (by decide) (fun c_7306 => ?_) (fun c_7306 => ?_)
                        · skip
                          have hG := hG.trans (if_neg c_7306)
                          have gc_7306 := ti_ne c_7306 rfl kc_0
                          replace gc_7306 : (-1) * z_7298.toInt + 1 ≤ 0 := om_e3003f79 gc_7306 b_z_7298.1
                          refine lv_aload_n hx hb dX7_court_156 rfl (lv_at hl 1 rfl) ?_
                          refine va_get (D := (dC, dI)) (ci := 7) (v := .int z_7298) (C := RX7) (T := TX7) (N := 48) hx hb hts inX7 hown hK hP 0 rfl rfl 13 (by decide) (hts _ wd_380) (fun _ h9 => h9) rfl dX7_court_157 ?_
                          refine lv_if_ne (tgt := 191) hx hb dX7_court_160 (by decide) (fun c_7307 => ?_) (fun c_7307 => ?_)
                          · skip
                            have hG := hG.trans (if_neg c_7307)
                            have gc_7307 := ti_ne c_7307 rfl kc_0
                            replace gc_7307 : (-1) * z_7298.toInt + 1 ≤ 0 := om_e3003f79 gc_7307 b_z_7298.1
                            refine lv_aload_n hx hb dX7_court_191 rfl (lv_at hl 1 rfl) ?_
                            refine va_get (D := (dC, dI)) (ci := 7) (v := .int z_7298) (C := RX7) (T := TX7) (N := 48) hx hb hts inX7 hown hK hP 0 rfl rfl 13 (by decide) (hts _ wd_380) (fun _ h9 => h9) rfl dX7_court_192 ?_
                            refine lv_if_eq (tgt := 204) hx hb dX7_court_195 (by decide) (fun c_7308 => ?_) (fun c_7308 => ?_)
                            · skip
                              have hG := hG.trans (if_pos c_7308)
                              have gc_7308 := ti_eq c_7308 rfl kc_0
                              exact ((om_77e4ddb5 gc_7305 gc_7308)).elim
                            · skip
                              have hG := hG.trans (if_neg c_7308)
                              have gc_7308 := ti_ne c_7308 rfl kc_0
                              replace gc_7308 : (-1) * z_7298.toInt + 1 ≤ 0 := om_e3003f79 gc_7308 b_z_7298.1
                              refine lv_aload_n hx hb dX7_court_198 rfl (lv_at hl 1 rfl) ?_
                              refine lv_iconst (v := 4) hx hb dX7_court_199 (by decide) ?_
                              have hMs := ml_of hD [true, false, false, false, false, false, false, false, false, false, false] (wc := [(oc7 oM x_7259 rM_tape 0 p0 z_7291 z_7292 z_7293 z_7294 z_7295 z_7296 z_7297 x_7260 rM_letters z_7298 iM_hasCourt rM_r rM_fresh rM_told rM_read rM_st rM_undone rM_kept iM_undos iM_images rM_fresher z_7299 iM_scale iM_night rM_heardRow rM_cutRow iM_breaths iM_cutMany iM_allBreaths rM_trial rM_words iM_fewestBreaths iM_orderMany iM_orderSum iM_leastOrder rM_often iM_setMany iM_someOf iM_allOf iM_allWeight iM_enoughWeight iM_worthSum iM_firstRest iM_leastDrawn)]) rfl
                              have hFc := va_freeM hD hS hA _ hMs
                              refine va_calli (va_runV (As := [.int 4]) (rest := []) ⟨hx, hb, hml, hown, hts⟩ (tX7_no l dC dI _ oM x_7259 rM_tape 0 p0 z_7291 z_7292 z_7293 z_7294 z_7295 z_7296 z_7297 x_7260 rM_letters z_7298 iM_hasCourt rM_r rM_fresh rM_told rM_read rM_st rM_undone rM_kept iM_undos iM_images rM_fresher z_7299 iM_scale iM_night rM_heardRow rM_cutRow iM_breaths iM_cutMany iM_allBreaths rM_trial rM_words iM_fewestBreaths iM_orderMany iM_orderSum iM_leastOrder rM_often iM_setMany iM_someOf iM_allOf iM_allWeight iM_enoughWeight iM_worthSum iM_firstRest iM_leastDrawn 4 (by first | decide | omega) (by first | exact ⟨by omega, by omega⟩ | omega | decide) b_z_7292 b_z_7298 b_iM_hasCourt b_iM_undos b_iM_images b_iM_scale b_iM_breaths b_iM_cutMany) (cwV 1 hts (wd_V wd_396 wd_397 wd_398 wd_5 (wd_c wd_399)) rfl rfl rfl dv_yX7_no_1 ⟨Nat.le_of_ble_eq_true rfl, Nat.le_of_ble_eq_true rfl⟩) ⟨Pw.fb, recvX7 hK hP (q0 := 0) rfl, fun U hU hW => Pw.to (hP.ms _ hMs) (hD.ms _ hMs) (hK.ms [false, false, false, false, false, false, false, false, false, false] rfl) hE hS hFc hU hW⟩ rfl rfl hl.1 rfl (lv_room (Nat.le_of_ble_eq_true rfl)) dX7_court_200 ⟨Nat.le_of_ble_eq_true rfl, Nat.le_of_ble_eq_true rfl⟩) hS (fun q _ h => hFc q h) hFc (fun r u t H locs ht hvm hw hB hz1 hk1 hS => ?_)
                              have hru9 := hw.2
                              have hw := hw.1
                              refine ex_1_1 hB (fun x_7309 e_x_7309_0 hB => ?_)
                              obtain ⟨hP, hD⟩ := Bw.goN (ws' := [(oc7 oM x_7259 rM_tape 0 p0 z_7291 z_7292 z_7293 z_7294 z_7295 z_7296 z_7297 x_7309 rM_letters z_7298 iM_hasCourt rM_r rM_fresh rM_told rM_read rM_st rM_undone rM_kept iM_undos iM_images rM_fresher z_7299 iM_scale iM_night rM_heardRow rM_cutRow iM_breaths iM_cutMany iM_allBreaths rM_trial rM_words iM_fewestBreaths iM_orderMany iM_orderSum iM_leastOrder rM_often iM_setMany iM_someOf iM_allOf iM_allWeight iM_enoughWeight iM_worthSum iM_firstRest iM_leastDrawn), (arI rM_tape kM_tape 900 fM_tape), (arI rM_letters kM_letters 8 f_7300), (arI rM_r kM_r 287 fM_r), (arI rM_fresh kM_fresh 287 f_7301), (arI rM_told kM_told 90 fM_told), (arI rM_read kM_read 90 f_7302), (arI rM_st kM_st 90 fM_st), (arI rM_undone kM_undone 1440 fM_undone), (arI rM_kept kM_kept 270 fM_kept), (arI rM_fresher kM_fresher 8 f_7303)]) hB rfl ht hP hD _ hMs hk1 hFc rfl
                              clear hz1 hk1 hvm ht hB hMs
                              rw [← hru9] at e_x_7309_0
                              obtain ⟨x_7310, rfl⟩ : ∃ z, z = r := ⟨_, rfl⟩
                              have hG := hG.trans (un2_eq e_x_7309_0)
                              exact wq_i hx hb hr (cI x_7310) ⟨⟨trivial, trivial⟩, (cI_of x_7310)⟩ (fun t ht hW => ⟨x_7259, 0, p0, z_7291, z_7292, z_7293, z_7294, z_7295, z_7296, z_7297, x_7309, z_7298, iM_hasCourt, iM_undos, iM_images, z_7299, iM_scale, f_7300, fM_r, f_7301, fM_told, f_7302, fM_st, f_7303, (by decide), ⟨by omega, by omega⟩, b_z_7292, b_z_7295, b_z_7298, ⟨b_iM_hasCourt.1, b_iM_hasCourt.2⟩, ⟨b_iM_undos.1, b_iM_undos.2⟩, ⟨b_iM_images.1, b_iM_images.2⟩, ⟨b_iM_scale.1, b_iM_scale.2⟩, (by have q0 := kc_0; have q1 := kc_1; first | assumption | omega), (by have q0 := kc_0; have q1 := kc_1; first | assumption | omega), (by have q0 := kc_0; have q1 := kc_1; first | assumption | omega), (by have q0 := kc_0; have q1 := kc_1; first | assumption | omega), (by have q0 := kc_0; have q1 := kc_1; first | assumption | omega), (by have q0 := kc_0; have q1 := kc_1; first | assumption | omega), (by have q0 := kc_0; have q1 := kc_1; first | assumption | omega), hi1_n_7304, (by have q0 := kc_0; have q1 := kc_1; first | assumption | omega), (cI_tup hG), Bw.to hP hD hK ht hW⟩) hS dX7_court_203 hlocks
                          · skip
                            have hG := hG.trans (if_pos c_7307)
                            have gc_7307 := ti_eq c_7307 rfl kc_0
                            exact ((om_77e4ddb5 gc_7305 gc_7307)).elim
                        · skip
                          have hG := hG.trans (if_pos c_7306)
                          have gc_7306 := ti_eq c_7306 rfl kc_0
                          exact ((om_77e4ddb5 gc_7305 gc_7306)).elim
                      · skip
                        have hG := hG.trans (if_pos c_7305)
                        have gc_7305 := ti_eq c_7305 rfl kc_0
                        refine lv_aload_n hx hb dX7_court_113 rfl (lv_at hl 1 rfl) ?_
                        refine va_get (D := (dC, dI)) (ci := 7) (v := .int z_7293) (C := RX7) (T := TX7) (N := 48) hx hb hts inX7 hown hK hP 0 rfl rfl 6 (by decide) (hts _ wd_383) (fun _ h9 => h9) rfl dX7_court_114 ?_
                        refine lv_bipush (v := 59) hx hb dX7_court_117 (by decide) ?_
                        refine lv_icmp_ne (tgt := 133) hx hb dX7_court_119 (by decide) (fun c_7311 => ?_) (fun c_7311 => ?_)
                        · skip
                          have hG := hG.trans (if_neg c_7311)
                          have gc_7311 := ti_ne c_7311 rfl kc_59
                          clear gc_7311
                          refine lv_aload_n hx hb dX7_court_133 rfl (lv_at hl 1 rfl) ?_
                          refine va_get (D := (dC, dI)) (ci := 7) (v := .int z_7298) (C := RX7) (T := TX7) (N := 48) hx hb hts inX7 hown hK hP 0 rfl rfl 13 (by decide) (hts _ wd_380) (fun _ h9 => h9) rfl dX7_court_134 ?_
                          refine lv_if_ne (tgt := 156) hx hb dX7_court_137 (by decide) (fun c_7312 => ?_) (fun c_7312 => ?_)
                          · skip
                            have hG := hG.trans (if_neg c_7312)
                            have gc_7312 := ti_ne c_7312 rfl kc_0
                            replace gc_7312 : z_7298.toInt + 1 ≤ 0 := om_f992525b gc_7312 gc_7305
                            exact ((om_5185113d b_z_7298.1 gc_7312)).elim
                          · skip
                            have hG := hG.trans (if_pos c_7312)
                            have gc_7312 := ti_eq c_7312 rfl kc_0
                            refine lv_aload_n hx hb dX7_court_140 rfl (lv_at hl 1 rfl) ?_
                            refine va_get (D := (dC, dI)) (ci := 7) (v := .int z_7293) (C := RX7) (T := TX7) (N := 48) hx hb hts inX7 hown hK hP 0 rfl rfl 6 (by decide) (hts _ wd_383) (fun _ h9 => h9) rfl dX7_court_141 ?_
                            refine lv_if_eq (tgt := 156) hx hb dX7_court_144 (by decide) (fun c_7313 => ?_) (fun c_7313 => ?_)
                            · skip
                              have hG := hG.trans (if_pos c_7313)
                              have gc_7313 := ti_eq c_7313 rfl kc_0
                              refine lv_aload_n hx hb dX7_court_156 rfl (lv_at hl 1 rfl) ?_
                              refine va_get (D := (dC, dI)) (ci := 7) (v := .int z_7298) (C := RX7) (T := TX7) (N := 48) hx hb hts inX7 hown hK hP 0 rfl rfl 13 (by decide) (hts _ wd_380) (fun _ h9 => h9) rfl dX7_court_157 ?_
                              refine lv_if_ne (tgt := 191) hx hb dX7_court_160 (by decide) (fun c_7314 => ?_) (fun c_7314 => ?_)
                              · skip
                                have hG := hG.trans (if_neg c_7314)
                                have gc_7314 := ti_ne c_7314 rfl kc_0
                                replace gc_7314 : z_7298.toInt + 1 ≤ 0 := om_f992525b gc_7314 gc_7305
                                exact ((om_5185113d b_z_7298.1 gc_7314)).elim
                              · skip
                                have hG := hG.trans (if_pos c_7314)
                                have gc_7314 := ti_eq c_7314 rfl kc_0
                                refine lv_aload_n hx hb dX7_court_163 rfl (lv_at hl 1 rfl) ?_
                                refine va_get (D := (dC, dI)) (ci := 7) (v := .ref rM_fresh) (C := RX7) (T := TX7) (N := 48) hx hb hts inX7 hown hK hP 0 rfl rfl 16 (by decide) (hts _ wd_156) (fun _ h9 => h9) rfl dX7_court_164 ?_
                                refine lv_iconst (v := 5) hx hb dX7_court_167 (by decide) ?_
                                refine va_iald hx hb hK hP 4 3 rfl rfl (by unfold vp_in; decide) dX7_court_168 ?_
                                refine lv_topi (fun x_7315 ex_7315 => ?_)
                                have hG := hG.trans (lt_eq ex_7315)
                                have cx_7315 : (f_7301 5).toInt = x_7315.toInt := congrArg Int32.toInt (show f_7301 5 = x_7315 from ex_7315.symm)
                                refine lv_if_eq (tgt := 181) hx hb dX7_court_169 (by decide) (fun c_7316 => ?_) (fun c_7316 => ?_)
                                · skip
                                  have hG := hG.trans (if_pos c_7316)
                                  have gc_7316 := ti_eq c_7316 rfl kc_0
                                  refine lv_aload_n hx hb dX7_court_181 rfl (lv_at hl 1 rfl) ?_
                                  refine lv_bipush (v := 6) hx hb dX7_court_182 (by decide) ?_
                                  refine lv_aload_n hx hb dX7_court_184 rfl (lv_at hl 1 rfl) ?_
                                  refine va_get (D := (dC, dI)) (ci := 7) (v := .int z_7291) (C := RX7) (T := TX7) (N := 48) hx hb hts inX7 hown hK hP 0 rfl rfl 4 (by decide) (hts _ wd_384) (fun _ h9 => h9) rfl dX7_court_185 ?_
                                  have hMs := ml_of hD [true, false, false, false, false, false, false, false, false, false, false] (wc := [(oc7 oM x_7259 rM_tape 0 p0 z_7291 z_7292 z_7293 z_7294 z_7295 z_7296 z_7297 x_7260 rM_letters z_7298 iM_hasCourt rM_r rM_fresh rM_told rM_read rM_st rM_undone rM_kept iM_undos iM_images rM_fresher z_7299 iM_scale iM_night rM_heardRow rM_cutRow iM_breaths iM_cutMany iM_allBreaths rM_trial rM_words iM_fewestBreaths iM_orderMany iM_orderSum iM_leastOrder rM_often iM_setMany iM_someOf iM_allOf iM_allWeight iM_enoughWeight iM_worthSum iM_firstRest iM_leastDrawn)]) rfl
                                  have hFc := va_freeM hD hS hA _ hMs
                                  refine va_callv (va_runV (As := [.int 6, .int z_7291]) (rest := []) ⟨hx, hb, hml, hown, hts⟩ (tX7_wrong l dC dI _ oM x_7259 rM_tape 0 p0 z_7291 z_7292 z_7293 z_7294 z_7295 z_7296 z_7297 x_7260 rM_letters z_7298 iM_hasCourt rM_r rM_fresh rM_told rM_read rM_st rM_undone rM_kept iM_undos iM_images rM_fresher z_7299 iM_scale iM_night rM_heardRow rM_cutRow iM_breaths iM_cutMany iM_allBreaths rM_trial rM_words iM_fewestBreaths iM_orderMany iM_orderSum iM_leastOrder rM_often iM_setMany iM_someOf iM_allOf iM_allWeight iM_enoughWeight iM_worthSum iM_firstRest iM_leastDrawn 6 z_7291 (by first | decide | omega) (by first | exact ⟨by omega, by omega⟩ | omega | decide) b_z_7292 b_z_7295 b_z_7298 b_iM_hasCourt b_iM_undos b_iM_images b_iM_scale b_iM_breaths b_iM_cutMany hi1_n_7304) (cwV 2 hts (wd_V wd_430 wd_431 wd_432 wd_5 (wd_c wd_433)) rfl rfl rfl dv_yX7_wrong_2 ⟨Nat.le_of_ble_eq_true rfl, Nat.le_of_ble_eq_true rfl⟩) ⟨Pw.fb, recvX7 hK hP (q0 := 0) rfl, fun U hU hW => Pw.to (hP.ms _ hMs) (hD.ms _ hMs) (hK.ms [false, false, false, false, false, false, false, false, false, false] rfl) hE hS hFc hU hW⟩ rfl rfl hl.1 rfl (lv_room (Nat.le_of_ble_eq_true rfl)) dX7_court_188 ⟨Nat.le_of_ble_eq_true rfl, Nat.le_of_ble_eq_true rfl⟩) hS (fun q _ h => hFc q h) hFc (fun u t H locs ht hvm hw hB hz1 hk1 hS => ?_)
                                  refine ex_3_3 hB (fun x_7317 x_7318 x_7319 b_x_7319 e_x_7317_0 e_x_7317_1 hB => ?_)
                                  obtain ⟨hP, hD⟩ := Bw.goN (ws' := [(oc7 oM x_7259 rM_tape 0 p0 z_7291 z_7292 z_7293 z_7294 z_7295 x_7317 x_7318 x_7260 rM_letters x_7319 iM_hasCourt rM_r rM_fresh rM_told rM_read rM_st rM_undone rM_kept iM_undos iM_images rM_fresher z_7299 iM_scale iM_night rM_heardRow rM_cutRow iM_breaths iM_cutMany iM_allBreaths rM_trial rM_words iM_fewestBreaths iM_orderMany iM_orderSum iM_leastOrder rM_often iM_setMany iM_someOf iM_allOf iM_allWeight iM_enoughWeight iM_worthSum iM_firstRest iM_leastDrawn), (arI rM_tape kM_tape 900 fM_tape), (arI rM_letters kM_letters 8 f_7300), (arI rM_r kM_r 287 fM_r), (arI rM_fresh kM_fresh 287 f_7301), (arI rM_told kM_told 90 fM_told), (arI rM_read kM_read 90 f_7302), (arI rM_st kM_st 90 fM_st), (arI rM_undone kM_undone 1440 fM_undone), (arI rM_kept kM_kept 270 fM_kept), (arI rM_fresher kM_fresher 8 f_7303)]) hB rfl ht hP hD _ hMs hk1 hFc rfl
                                  clear hz1 hk1 hvm ht hB hMs
                                  have hG := hG.trans (un3_eq e_x_7317_1)
                                  refine lv_aload_n hx hb dX7_court_191 rfl (lv_at hl 1 rfl) ?_
                                  refine va_get (D := (dC, dI)) (ci := 7) (v := .int x_7319) (C := RX7) (T := TX7) (N := 48) hx hb hts inX7 hown hK hP 0 rfl rfl 13 (by decide) (hts _ wd_380) (fun _ h9 => h9) rfl dX7_court_192 ?_
                                  refine lv_if_eq (tgt := 204) hx hb dX7_court_195 (by decide) (fun c_7320 => ?_) (fun c_7320 => ?_)
                                  · skip
                                    have hG := hG.trans (if_pos c_7320)
                                    have gc_7320 := ti_eq c_7320 rfl kc_0
                                    exact ((om_b1155cdc e_x_7317_0 gc_7320)).elim
                                  · skip
                                    have hG := hG.trans (if_neg c_7320)
                                    have gc_7320 := ti_ne c_7320 rfl kc_0
                                    replace gc_7320 : (-1) * x_7319.toInt + 1 ≤ 0 := om_e3003f79 gc_7320 b_x_7319.1
                                    refine lv_aload_n hx hb dX7_court_198 rfl (lv_at hl 1 rfl) ?_
                                    refine lv_iconst (v := 4) hx hb dX7_court_199 (by decide) ?_
                                    have hMs := ml_of hD [true, false, false, false, false, false, false, false, false, false, false] (wc := [(oc7 oM x_7259 rM_tape 0 p0 z_7291 z_7292 z_7293 z_7294 z_7295 x_7317 x_7318 x_7260 rM_letters x_7319 iM_hasCourt rM_r rM_fresh rM_told rM_read rM_st rM_undone rM_kept iM_undos iM_images rM_fresher z_7299 iM_scale iM_night rM_heardRow rM_cutRow iM_breaths iM_cutMany iM_allBreaths rM_trial rM_words iM_fewestBreaths iM_orderMany iM_orderSum iM_leastOrder rM_often iM_setMany iM_someOf iM_allOf iM_allWeight iM_enoughWeight iM_worthSum iM_firstRest iM_leastDrawn)]) rfl
                                    have hFc := va_freeM hD hS hA _ hMs
                                    refine va_calli (va_runV (As := [.int 4]) (rest := []) ⟨hx, hb, hml, hown, hts⟩ (tX7_no l dC dI _ oM x_7259 rM_tape 0 p0 z_7291 z_7292 z_7293 z_7294 z_7295 x_7317 x_7318 x_7260 rM_letters x_7319 iM_hasCourt rM_r rM_fresh rM_told rM_read rM_st rM_undone rM_kept iM_undos iM_images rM_fresher z_7299 iM_scale iM_night rM_heardRow rM_cutRow iM_breaths iM_cutMany iM_allBreaths rM_trial rM_words iM_fewestBreaths iM_orderMany iM_orderSum iM_leastOrder rM_often iM_setMany iM_someOf iM_allOf iM_allWeight iM_enoughWeight iM_worthSum iM_firstRest iM_leastDrawn 4 (by first | decide | omega) (by first | exact ⟨by omega, by omega⟩ | omega | decide) b_z_7292 b_x_7319 b_iM_hasCourt b_iM_undos b_iM_images b_iM_scale b_iM_breaths b_iM_cutMany) (cwV 1 hts (wd_V wd_396 wd_397 wd_398 wd_5 (wd_c wd_399)) rfl rfl rfl dv_yX7_no_1 ⟨Nat.le_of_ble_eq_true rfl, Nat.le_of_ble_eq_true rfl⟩) ⟨Pw.fb, recvX7 hK hP (q0 := 0) rfl, fun U hU hW => Pw.to (hP.ms _ hMs) (hD.ms _ hMs) (hK.ms [false, false, false, false, false, false, false, false, false, false] rfl) hE hS hFc hU hW⟩ rfl rfl hl.1 rfl (lv_room (Nat.le_of_ble_eq_true rfl)) dX7_court_200 ⟨Nat.le_of_ble_eq_true rfl, Nat.le_of_ble_eq_true rfl⟩) hS (fun q _ h => hFc q h) hFc (fun r u t H locs ht hvm hw hB hz1 hk1 hS => ?_)
                                    have hru9 := hw.2
                                    have hw := hw.1
                                    refine ex_1_1 hB (fun x_7321 e_x_7321_0 hB => ?_)
                                    obtain ⟨hP, hD⟩ := Bw.goN (ws' := [(oc7 oM x_7259 rM_tape 0 p0 z_7291 z_7292 z_7293 z_7294 z_7295 x_7317 x_7318 x_7321 rM_letters x_7319 iM_hasCourt rM_r rM_fresh rM_told rM_read rM_st rM_undone rM_kept iM_undos iM_images rM_fresher z_7299 iM_scale iM_night rM_heardRow rM_cutRow iM_breaths iM_cutMany iM_allBreaths rM_trial rM_words iM_fewestBreaths iM_orderMany iM_orderSum iM_leastOrder rM_often iM_setMany iM_someOf iM_allOf iM_allWeight iM_enoughWeight iM_worthSum iM_firstRest iM_leastDrawn), (arI rM_tape kM_tape 900 fM_tape), (arI rM_letters kM_letters 8 f_7300), (arI rM_r kM_r 287 fM_r), (arI rM_fresh kM_fresh 287 f_7301), (arI rM_told kM_told 90 fM_told), (arI rM_read kM_read 90 f_7302), (arI rM_st kM_st 90 fM_st), (arI rM_undone kM_undone 1440 fM_undone), (arI rM_kept kM_kept 270 fM_kept), (arI rM_fresher kM_fresher 8 f_7303)]) hB rfl ht hP hD _ hMs hk1 hFc rfl
                                    clear hz1 hk1 hvm ht hB hMs
                                    rw [← hru9] at e_x_7321_0
                                    obtain ⟨x_7322, rfl⟩ : ∃ z, z = r := ⟨_, rfl⟩
                                    have hG := hG.trans (un2_eq e_x_7321_0)
                                    exact wq_i hx hb hr (cI x_7322) ⟨⟨trivial, trivial⟩, (cI_of x_7322)⟩ (fun t ht hW => ⟨x_7259, 0, p0, z_7291, z_7292, z_7293, z_7294, z_7295, x_7317, x_7318, x_7321, x_7319, iM_hasCourt, iM_undos, iM_images, z_7299, iM_scale, f_7300, fM_r, f_7301, fM_told, f_7302, fM_st, f_7303, (by decide), ⟨by omega, by omega⟩, b_z_7292, b_z_7295, b_x_7319, ⟨b_iM_hasCourt.1, b_iM_hasCourt.2⟩, ⟨b_iM_undos.1, b_iM_undos.2⟩, ⟨b_iM_images.1, b_iM_images.2⟩, ⟨b_iM_scale.1, b_iM_scale.2⟩, (by have q0 := kc_0; have q1 := kc_1; first | assumption | omega), (by have q0 := kc_0; have q1 := kc_1; first | assumption | omega), (by have q0 := kc_0; have q1 := kc_1; first | assumption | omega), (by have q0 := kc_0; have q1 := kc_1; first | assumption | omega), (by have q0 := kc_0; have q1 := kc_1; first | assumption | omega), (by have q0 := kc_0; have q1 := kc_1; first | assumption | omega), (by have q0 := kc_0; have q1 := kc_1; first | assumption | omega), hi1_n_7304, (by have q0 := kc_0; have q1 := kc_1; first | assumption | omega), (cI_tup hG), Bw.to hP hD hK ht hW⟩) hS dX7_court_203 hlocks
                                · skip
                                  have hG := hG.trans (if_neg c_7316)
                                  have gc_7316 := ti_ne c_7316 rfl kc_0
                                  clear gc_7316
                                  refine lv_aload_n hx hb dX7_court_172 rfl (lv_at hl 1 rfl) ?_
                                  refine va_get (D := (dC, dI)) (ci := 7) (v := .ref rM_fresh) (C := RX7) (T := TX7) (N := 48) hx hb hts inX7 hown hK hP 0 rfl rfl 16 (by decide) (hts _ wd_156) (fun _ h9 => h9) rfl dX7_court_173 ?_
                                  refine lv_iconst (v := 2) hx hb dX7_court_176 (by decide) ?_
                                  refine va_iald hx hb hK hP 4 3 rfl rfl (by unfold vp_in; decide) dX7_court_177 ?_
                                  refine lv_topi (fun x_7323 ex_7323 => ?_)
                                  have hG := hG.trans (lt_eq ex_7323)
                                  have cx_7323 : (f_7301 2).toInt = x_7323.toInt := congrArg Int32.toInt (show f_7301 2 = x_7323 from ex_7323.symm)
                                  refine lv_if_ne (tgt := 191) hx hb dX7_court_178 (by decide) (fun c_7324 => ?_) (fun c_7324 => ?_)
                                  · skip
                                    have hG := hG.trans (if_neg c_7324)
                                    have gc_7324 := ti_ne c_7324 rfl kc_0
                                    replace gc_7324 : (-1) * x_7323.toInt + 1 ≤ 0 := om_3ff8332a gc_7324 pl_f_7301.2.2.1.1 cx_7323
                                    refine lv_aload_n hx hb dX7_court_191 rfl (lv_at hl 1 rfl) ?_
                                    refine va_get (D := (dC, dI)) (ci := 7) (v := .int z_7298) (C := RX7) (T := TX7) (N := 48) hx hb hts inX7 hown hK hP 0 rfl rfl 13 (by decide) (hts _ wd_380) (fun _ h9 => h9) rfl dX7_court_192 ?_
                                    refine lv_if_eq (tgt := 204) hx hb dX7_court_195 (by decide) (fun c_7325 => ?_) (fun c_7325 => ?_)
                                    · skip
                                      have hG := hG.trans (if_pos c_7325)
                                      have gc_7325 := ti_eq c_7325 rfl kc_0
                                      refine lv_aload_n hx hb dX7_court_204 rfl (lv_at hl 1 rfl) ?_
                                      refine va_get (D := (dC, dI)) (ci := 7) (v := .ref rM_fresh) (C := RX7) (T := TX7) (N := 48) hx hb hts inX7 hown hK hP 0 rfl rfl 16 (by decide) (hts _ wd_156) (fun _ h9 => h9) rfl dX7_court_205 ?_
                                      refine lv_bipush (v := 6) hx hb dX7_court_208 (by decide) ?_
                                      refine va_iald hx hb hK hP 4 3 rfl rfl (by unfold vp_in; decide) dX7_court_210 ?_
                                      refine lv_topi (fun x_7326 ex_7326 => ?_)
                                      have hG := hG.trans (lt_eq ex_7326)
                                      have cx_7326 : (f_7301 6).toInt = x_7326.toInt := congrArg Int32.toInt (show f_7301 6 = x_7326 from ex_7326.symm)
                                      refine lv_if_ge (tgt := 229) hx hb dX7_court_211 (by decide) (fun c_7327 => ?_) (fun c_7327 => ?_)
                                      · skip
                                        have hG := hG.trans (if_pos c_7327)
                                        have gc_7327 := ti_le c_7327 kc_0 rfl
                                        refine lv_aload_n hx hb dX7_court_229 rfl (lv_at hl 1 rfl) ?_
                                        refine va_get (D := (dC, dI)) (ci := 7) (v := .ref rM_fresh) (C := RX7) (T := TX7) (N := 48) hx hb hts inX7 hown hK hP 0 rfl rfl 16 (by decide) (hts _ wd_156) (fun _ h9 => h9) rfl dX7_court_230 ?_
                                        refine lv_iconst (v := 0) hx hb dX7_court_233 (by decide) ?_
                                        refine lv_aload_n hx hb dX7_court_234 rfl (lv_at hl 1 rfl) ?_
                                        refine va_get (D := (dC, dI)) (ci := 7) (v := .ref rM_r) (C := RX7) (T := TX7) (N := 48) hx hb hts inX7 hown hK hP 0 rfl rfl 15 (by decide) (hts _ wd_155) (fun _ h9 => h9) rfl dX7_court_235 ?_
                                        refine lv_iconst (v := 0) hx hb dX7_court_238 (by decide) ?_
                                        refine lv_sipush (v := 287) hx hb dX7_court_239 (by decide) ?_
                                        have hFc := va_free (wc := [(arI rM_fresh kM_fresh 287 f_7301), (arI rM_r kM_r 287 fM_r)]) hD hS hA [4, 3] rfl
                                        refine va_callv (va_runS (As := [.ref rM_fresh, .int 0, .ref rM_r, .int 0, .int 287]) (rest := []) ⟨hx, hb, hml, hown, hts⟩ (tX7_copy_287_287 l dC dI _ rM_fresh f_7301 kM_fresh rM_r fM_r kM_r 0 0 287 ⟨(om_b1de7dbe kc_0), (om_b1de7dbe kc_0), (om_03d58641 kc_287)⟩ (om_29114139 kc_0 kc_287) (om_29114139 kc_0 kc_287)) (va_cwS 5 hts (wd_S wd_475 wd_476 wd_5 (wd_c wd_477)) rfl rfl rfl ds_yX7_copy_5 ⟨Nat.le_of_ble_eq_true rfl, Nat.le_of_ble_eq_true rfl⟩) ⟨Pw.fb, fun U hU hW => Pw.to (hP.sub [4, 3] rfl) (hD.sub [4, 3] (by decide) rfl) (hK.sub [3, 2] rfl) hE hS hFc hU hW⟩ rfl rfl hl.1 rfl (lv_room (Nat.le_of_ble_eq_true rfl)) dX7_court_242 ⟨Nat.le_of_ble_eq_true rfl, Nat.le_of_ble_eq_true rfl⟩) hS (fun q _ h => hFc q h) hFc (fun u t H locs ht hvm hw hB hz1 hk1 hS => ?_)
                                        refine ex_1_1 hB (fun f_7328 e_f_7328_0 hB => ?_)
                                        obtain ⟨hP, hD, hK⟩ := Bw.go (ws' := [(oc7 oM x_7259 rM_tape 0 p0 z_7291 z_7292 z_7293 z_7294 z_7295 z_7296 z_7297 x_7260 rM_letters z_7298 iM_hasCourt rM_r rM_fresh rM_told rM_read rM_st rM_undone rM_kept iM_undos iM_images rM_fresher z_7299 iM_scale iM_night rM_heardRow rM_cutRow iM_breaths iM_cutMany iM_allBreaths rM_trial rM_words iM_fewestBreaths iM_orderMany iM_orderSum iM_leastOrder rM_often iM_setMany iM_someOf iM_allOf iM_allWeight iM_enoughWeight iM_worthSum iM_firstRest iM_leastDrawn), (arI rM_tape kM_tape 900 fM_tape), (arI rM_letters kM_letters 8 f_7300), (arI rM_told kM_told 90 fM_told), (arI rM_read kM_read 90 f_7302), (arI rM_st kM_st 90 fM_st), (arI rM_undone kM_undone 1440 fM_undone), (arI rM_kept kM_kept 270 fM_kept), (arI rM_fresher kM_fresher 8 f_7303), (arI rM_fresh kM_fresh 287 f_7301), (arI rM_r kM_r 287 f_7328)]) (tys' := [(kM_tape, .int), (kM_letters, .int), (kM_told, .int), (kM_read, .int), (kM_st, .int), (kM_undone, .int), (kM_kept, .int), (kM_fresher, .int), (kM_fresh, .int), (kM_r, .int)]) hB rfl ht hvm hP hD hK [4, 3] [0, 1, 2, 5, 6, 7, 8, 9, 10] rfl (by decide) (by decide) [0, 1, 4, 5, 6, 7, 8, 9] hk1 hFc rfl rfl rfl
                                        clear hz1 hk1 hvm ht hB
                                        have cr9 := cp_all (m := 287) e_f_7328_0 rfl
                                        have r_R : ROk f_7328 := ROk.congr hi0_n_7304.1.toR cr9
                                        have rq9 : RowOk f_7328 f_7302 := RowOk.fr hi0_n_7304.2.1 (cr9 1 (by decide)) (fun k hk => cr9 _ (by omega))
                                        have o1_f_7328 : (f_7328 1).toInt = (f_7301 1).toInt := by rw [cr9 1 (by decide)]
                                        have o6_f_7328 : (f_7328 6).toInt = (f_7301 6).toInt := by rw [cr9 6 (by decide)]
                                        have s_nodes := r_R.nodes
                                        have hG := hG.trans (lt_eq (CopyOk.fn e_f_7328_0).symm)
                                        refine lv_aload_n hx hb dX7_court_245 rfl (lv_at hl 1 rfl) ?_
                                        refine va_get (D := (dC, dI)) (ci := 7) (v := .ref rM_read) (C := RX7) (T := TX7) (N := 48) hx hb hts inX7 hown hK hP 0 rfl rfl 18 (by decide) (hts _ wd_158) (fun _ h9 => h9) rfl dX7_court_246 ?_
                                        refine lv_iconst (v := 0) hx hb dX7_court_249 (by decide) ?_
                                        refine lv_aload_n hx hb dX7_court_250 rfl (lv_at hl 1 rfl) ?_
                                        refine va_get (D := (dC, dI)) (ci := 7) (v := .ref rM_told) (C := RX7) (T := TX7) (N := 48) hx hb hts inX7 hown hK hP 0 rfl rfl 17 (by decide) (hts _ wd_157) (fun _ h9 => h9) rfl dX7_court_251 ?_
                                        refine lv_iconst (v := 0) hx hb dX7_court_254 (by decide) ?_
                                        refine lv_bipush (v := 90) hx hb dX7_court_255 (by decide) ?_
                                        have hFc := va_free (wc := [(arI rM_read kM_read 90 f_7302), (arI rM_told kM_told 90 fM_told)]) hD hS hA [4, 3] rfl
                                        refine va_callv (va_runS (As := [.ref rM_read, .int 0, .ref rM_told, .int 0, .int 90]) (rest := []) ⟨hx, hb, hml, hown, hts⟩ (tX7_copy_90_90 l dC dI _ rM_read f_7302 kM_read rM_told fM_told kM_told 0 0 90 ⟨(om_b1de7dbe kc_0), (om_b1de7dbe kc_0), (om_34f60646 kc_90)⟩ (om_3b9d1022 kc_0 kc_90) (om_3b9d1022 kc_0 kc_90)) (va_cwS 5 hts (wd_S wd_475 wd_476 wd_5 (wd_c wd_477)) rfl rfl rfl ds_yX7_copy_5 ⟨Nat.le_of_ble_eq_true rfl, Nat.le_of_ble_eq_true rfl⟩) ⟨Pw.fb, fun U hU hW => Pw.to (hP.sub [4, 3] rfl) (hD.sub [4, 3] (by decide) rfl) (hK.sub [3, 2] rfl) hE hS hFc hU hW⟩ rfl rfl hl.1 rfl (lv_room (Nat.le_of_ble_eq_true rfl)) dX7_court_257 ⟨Nat.le_of_ble_eq_true rfl, Nat.le_of_ble_eq_true rfl⟩) hS (fun q _ h => hFc q h) hFc (fun u t H locs ht hvm hw hB hz1 hk1 hS => ?_)
                                        refine ex_1_1 hB (fun f_7329 e_f_7329_0 hB => ?_)
                                        obtain ⟨hP, hD, hK⟩ := Bw.go (ws' := [(oc7 oM x_7259 rM_tape 0 p0 z_7291 z_7292 z_7293 z_7294 z_7295 z_7296 z_7297 x_7260 rM_letters z_7298 iM_hasCourt rM_r rM_fresh rM_told rM_read rM_st rM_undone rM_kept iM_undos iM_images rM_fresher z_7299 iM_scale iM_night rM_heardRow rM_cutRow iM_breaths iM_cutMany iM_allBreaths rM_trial rM_words iM_fewestBreaths iM_orderMany iM_orderSum iM_leastOrder rM_often iM_setMany iM_someOf iM_allOf iM_allWeight iM_enoughWeight iM_worthSum iM_firstRest iM_leastDrawn), (arI rM_tape kM_tape 900 fM_tape), (arI rM_letters kM_letters 8 f_7300), (arI rM_st kM_st 90 fM_st), (arI rM_undone kM_undone 1440 fM_undone), (arI rM_kept kM_kept 270 fM_kept), (arI rM_fresher kM_fresher 8 f_7303), (arI rM_fresh kM_fresh 287 f_7301), (arI rM_r kM_r 287 f_7328), (arI rM_read kM_read 90 f_7302), (arI rM_told kM_told 90 f_7329)]) (tys' := [(kM_tape, .int), (kM_letters, .int), (kM_st, .int), (kM_undone, .int), (kM_kept, .int), (kM_fresher, .int), (kM_fresh, .int), (kM_r, .int), (kM_read, .int), (kM_told, .int)]) hB rfl ht hvm hP hD hK [4, 3] [0, 1, 2, 5, 6, 7, 8, 9, 10] rfl (by decide) (by decide) [0, 1, 4, 5, 6, 7, 8, 9] hk1 hFc rfl rfl rfl
                                        clear hz1 hk1 hvm ht hB
                                        have r_f_7329 : RowOk f_7328 f_7329 := RowOk.copy r_R rq9 e_f_7329_0
                                        have hG := hG.trans (lt_eq (CopyOk.fn e_f_7329_0).symm)
                                        refine lv_aload_n hx hb dX7_court_260 rfl (lv_at hl 1 rfl) ?_
                                        refine va_get (D := (dC, dI)) (ci := 7) (v := .ref rM_read) (C := RX7) (T := TX7) (N := 48) hx hb hts inX7 hown hK hP 0 rfl rfl 18 (by decide) (hts _ wd_158) (fun _ h9 => h9) rfl dX7_court_261 ?_
                                        refine lv_iconst (v := 0) hx hb dX7_court_264 (by decide) ?_
                                        refine lv_aload_n hx hb dX7_court_265 rfl (lv_at hl 1 rfl) ?_
                                        refine va_get (D := (dC, dI)) (ci := 7) (v := .ref rM_st) (C := RX7) (T := TX7) (N := 48) hx hb hts inX7 hown hK hP 0 rfl rfl 19 (by decide) (hts _ wd_159) (fun _ h9 => h9) rfl dX7_court_266 ?_
                                        refine lv_iconst (v := 0) hx hb dX7_court_269 (by decide) ?_
                                        refine lv_bipush (v := 90) hx hb dX7_court_270 (by decide) ?_
                                        have hFc := va_free (wc := [(arI rM_read kM_read 90 f_7302), (arI rM_st kM_st 90 fM_st)]) hD hS hA [9, 3] rfl
                                        refine va_callv (va_runS (As := [.ref rM_read, .int 0, .ref rM_st, .int 0, .int 90]) (rest := []) ⟨hx, hb, hml, hown, hts⟩ (tX7_copy_90_90 l dC dI _ rM_read f_7302 kM_read rM_st fM_st kM_st 0 0 90 ⟨(om_b1de7dbe kc_0), (om_b1de7dbe kc_0), (om_34f60646 kc_90)⟩ (om_3b9d1022 kc_0 kc_90) (om_3b9d1022 kc_0 kc_90)) (va_cwS 5 hts (wd_S wd_475 wd_476 wd_5 (wd_c wd_477)) rfl rfl rfl ds_yX7_copy_5 ⟨Nat.le_of_ble_eq_true rfl, Nat.le_of_ble_eq_true rfl⟩) ⟨Pw.fb, fun U hU hW => Pw.to (hP.sub [9, 3] rfl) (hD.sub [9, 3] (by decide) rfl) (hK.sub [8, 2] rfl) hE hS hFc hU hW⟩ rfl rfl hl.1 rfl (lv_room (Nat.le_of_ble_eq_true rfl)) dX7_court_272 ⟨Nat.le_of_ble_eq_true rfl, Nat.le_of_ble_eq_true rfl⟩) hS (fun q _ h => hFc q h) hFc (fun u t H locs ht hvm hw hB hz1 hk1 hS => ?_)
                                        refine ex_1_1 hB (fun f_7330 e_f_7330_0 hB => ?_)
                                        obtain ⟨hP, hD, hK⟩ := Bw.go (ws' := [(oc7 oM x_7259 rM_tape 0 p0 z_7291 z_7292 z_7293 z_7294 z_7295 z_7296 z_7297 x_7260 rM_letters z_7298 iM_hasCourt rM_r rM_fresh rM_told rM_read rM_st rM_undone rM_kept iM_undos iM_images rM_fresher z_7299 iM_scale iM_night rM_heardRow rM_cutRow iM_breaths iM_cutMany iM_allBreaths rM_trial rM_words iM_fewestBreaths iM_orderMany iM_orderSum iM_leastOrder rM_often iM_setMany iM_someOf iM_allOf iM_allWeight iM_enoughWeight iM_worthSum iM_firstRest iM_leastDrawn), (arI rM_tape kM_tape 900 fM_tape), (arI rM_letters kM_letters 8 f_7300), (arI rM_undone kM_undone 1440 fM_undone), (arI rM_kept kM_kept 270 fM_kept), (arI rM_fresher kM_fresher 8 f_7303), (arI rM_fresh kM_fresh 287 f_7301), (arI rM_r kM_r 287 f_7328), (arI rM_told kM_told 90 f_7329), (arI rM_read kM_read 90 f_7302), (arI rM_st kM_st 90 f_7330)]) (tys' := [(kM_tape, .int), (kM_letters, .int), (kM_undone, .int), (kM_kept, .int), (kM_fresher, .int), (kM_fresh, .int), (kM_r, .int), (kM_told, .int), (kM_read, .int), (kM_st, .int)]) hB rfl ht hvm hP hD hK [9, 3] [0, 1, 2, 4, 5, 6, 7, 8, 10] rfl (by decide) (by decide) [0, 1, 3, 4, 5, 6, 7, 9] hk1 hFc rfl rfl rfl
                                        clear hz1 hk1 hvm ht hB
                                        have r_f_7330 : RowOk f_7328 f_7330 := RowOk.copy r_R rq9 e_f_7330_0
                                        have w_f_7330 : WorOk f_7330 := WorOk.congr hi0_n_7304.2.2 (fun j _ h2 => cp_all (m := 90) e_f_7330_0 rfl j h2)
                                        have hG := hG.trans (lt_eq (CopyOk.fn e_f_7330_0).symm)
                                        refine lv_aload_n hx hb dX7_court_275 rfl (lv_at hl 1 rfl) ?_
                                        have hMs := ml_of hD [true, false, false, false, false, false, false, true, false, false, false] (wc := [(oc7 oM x_7259 rM_tape 0 p0 z_7291 z_7292 z_7293 z_7294 z_7295 z_7296 z_7297 x_7260 rM_letters z_7298 iM_hasCourt rM_r rM_fresh rM_told rM_read rM_st rM_undone rM_kept iM_undos iM_images rM_fresher z_7299 iM_scale iM_night rM_heardRow rM_cutRow iM_breaths iM_cutMany iM_allBreaths rM_trial rM_words iM_fewestBreaths iM_orderMany iM_orderSum iM_leastOrder rM_often iM_setMany iM_someOf iM_allOf iM_allWeight iM_enoughWeight iM_worthSum iM_firstRest iM_leastDrawn), (arI rM_r kM_r 287 f_7328)]) rfl
                                        have hFc := va_freeM hD hS hA _ hMs
                                        refine va_callv (va_runV (As := []) (rest := []) ⟨hx, hb, hml, hown, hts⟩ (tX7_layScale l dC dI _ oM x_7259 rM_tape 0 p0 z_7291 z_7292 z_7293 z_7294 z_7295 z_7296 z_7297 x_7260 rM_letters z_7298 iM_hasCourt rM_r f_7328 kM_r rM_fresh rM_told rM_read rM_st rM_undone rM_kept iM_undos iM_images rM_fresher z_7299 iM_scale iM_night rM_heardRow rM_cutRow iM_breaths iM_cutMany iM_allBreaths rM_trial rM_words iM_fewestBreaths iM_orderMany iM_orderSum iM_leastOrder rM_often iM_setMany iM_someOf iM_allOf iM_allWeight iM_enoughWeight iM_worthSum iM_firstRest iM_leastDrawn (by first | decide | omega) (by first | exact ⟨by omega, by omega⟩ | omega | decide) b_z_7292 b_z_7298 b_iM_hasCourt b_iM_undos b_iM_images b_iM_scale b_iM_breaths b_iM_cutMany (by assumption) (by first | assumption | omega)) (cwV 0 hts (wd_V wd_502 wd_503 wd_504 wd_5 (wd_c wd_505)) rfl rfl rfl dv_yX7_layScale_0 ⟨Nat.le_of_ble_eq_true rfl, Nat.le_of_ble_eq_true rfl⟩) ⟨Pw.fb, recvX7 hK hP (q0 := 0) rfl, fun U hU hW => Pw.to (hP.ms _ hMs) (hD.ms _ hMs) (hK.ms [false, false, false, false, false, false, true, false, false, false] rfl) hE hS hFc hU hW⟩ rfl rfl hl.1 rfl (lv_room (Nat.le_of_ble_eq_true rfl)) dX7_court_276 ⟨Nat.le_of_ble_eq_true rfl, Nat.le_of_ble_eq_true rfl⟩) hS (fun q _ h => hFc q h) hFc (fun u t H locs ht hvm hw hB hz1 hk1 hS => ?_)
                                        refine ex_1_2 hB (fun x_7331 b_x_7331 e_x_7331_0 hB => ?_)
                                        obtain ⟨hP, hD⟩ := Bw.goN (ws' := [(oc7 oM x_7259 rM_tape 0 p0 z_7291 z_7292 z_7293 z_7294 z_7295 z_7296 z_7297 x_7260 rM_letters z_7298 iM_hasCourt rM_r rM_fresh rM_told rM_read rM_st rM_undone rM_kept iM_undos iM_images rM_fresher z_7299 x_7331 iM_night rM_heardRow rM_cutRow iM_breaths iM_cutMany iM_allBreaths rM_trial rM_words iM_fewestBreaths iM_orderMany iM_orderSum iM_leastOrder rM_often iM_setMany iM_someOf iM_allOf iM_allWeight iM_enoughWeight iM_worthSum iM_firstRest iM_leastDrawn), (arI rM_tape kM_tape 900 fM_tape), (arI rM_letters kM_letters 8 f_7300), (arI rM_undone kM_undone 1440 fM_undone), (arI rM_kept kM_kept 270 fM_kept), (arI rM_fresher kM_fresher 8 f_7303), (arI rM_fresh kM_fresh 287 f_7301), (arI rM_r kM_r 287 f_7328), (arI rM_told kM_told 90 f_7329), (arI rM_read kM_read 90 f_7302), (arI rM_st kM_st 90 f_7330)]) hB rfl ht hP hD _ hMs hk1 hFc rfl
                                        clear hz1 hk1 hvm ht hB hMs
                                        have hG := hG.trans (lt_eq e_x_7331_0.symm)
                                        refine lv_aload_n hx hb dX7_court_279 rfl (lv_at hl 1 rfl) ?_
                                        refine lv_iconst (v := 1) hx hb dX7_court_280 (by decide) ?_
                                        refine va_put (D := (dC, dI)) (ci := 7) (v := .int 1) (ty := .boolean) (C := RX7) (T := TX7) (N := 48) hx hb hts inX7 tyX7 tyX7_ok nmX7 hown hK hP hD hS 0 rfl rfl 14 (by decide) (hts _ wd_385) (fun _ h9 => h9) rfl (by decide +kernel) rfl rfl (Nat.le_of_ble_eq_true rfl) dX7_court_281 (fun H locs hP hD hS => ?_)
                                        obtain ⟨hP, hD⟩ := wl2 (ws' := [(oc7 oM x_7259 rM_tape 0 p0 z_7291 z_7292 z_7293 z_7294 z_7295 z_7296 z_7297 x_7260 rM_letters z_7298 1 rM_r rM_fresh rM_told rM_read rM_st rM_undone rM_kept iM_undos iM_images rM_fresher z_7299 x_7331 iM_night rM_heardRow rM_cutRow iM_breaths iM_cutMany iM_allBreaths rM_trial rM_words iM_fewestBreaths iM_orderMany iM_orderSum iM_leastOrder rM_often iM_setMany iM_someOf iM_allOf iM_allWeight iM_enoughWeight iM_worthSum iM_firstRest iM_leastDrawn), (arI rM_tape kM_tape 900 fM_tape), (arI rM_letters kM_letters 8 f_7300), (arI rM_undone kM_undone 1440 fM_undone), (arI rM_kept kM_kept 270 fM_kept), (arI rM_fresher kM_fresher 8 f_7303), (arI rM_fresh kM_fresh 287 f_7301), (arI rM_r kM_r 287 f_7328), (arI rM_told kM_told 90 f_7329), (arI rM_read kM_read 90 f_7302), (arI rM_st kM_st 90 f_7330)]) hP hD rfl
                                        refine lv_aload_n hx hb dX7_court_284 rfl (lv_at hl 1 rfl) ?_
                                        refine lv_iconst (v := 0) hx hb dX7_court_285 (by decide) ?_
                                        refine va_put (D := (dC, dI)) (ci := 7) (v := .int 0) (ty := .int) (C := RX7) (T := TX7) (N := 48) hx hb hts inX7 tyX7 tyX7_ok nmX7 hown hK hP hD hS 0 rfl rfl 22 (by decide) (hts _ wd_386) (fun _ h9 => h9) rfl (by decide +kernel) rfl rfl (Nat.le_of_ble_eq_true rfl) dX7_court_286 (fun H locs hP hD hS => ?_)
                                        obtain ⟨hP, hD⟩ := wl2 (ws' := [(oc7 oM x_7259 rM_tape 0 p0 z_7291 z_7292 z_7293 z_7294 z_7295 z_7296 z_7297 x_7260 rM_letters z_7298 1 rM_r rM_fresh rM_told rM_read rM_st rM_undone rM_kept 0 iM_images rM_fresher z_7299 x_7331 iM_night rM_heardRow rM_cutRow iM_breaths iM_cutMany iM_allBreaths rM_trial rM_words iM_fewestBreaths iM_orderMany iM_orderSum iM_leastOrder rM_often iM_setMany iM_someOf iM_allOf iM_allWeight iM_enoughWeight iM_worthSum iM_firstRest iM_leastDrawn), (arI rM_tape kM_tape 900 fM_tape), (arI rM_letters kM_letters 8 f_7300), (arI rM_undone kM_undone 1440 fM_undone), (arI rM_kept kM_kept 270 fM_kept), (arI rM_fresher kM_fresher 8 f_7303), (arI rM_fresh kM_fresh 287 f_7301), (arI rM_r kM_r 287 f_7328), (arI rM_told kM_told 90 f_7329), (arI rM_read kM_read 90 f_7302), (arI rM_st kM_st 90 f_7330)]) hP hD rfl
                                        refine lv_aload_n hx hb dX7_court_289 rfl (lv_at hl 1 rfl) ?_
                                        refine lv_iconst (v := 0) hx hb dX7_court_290 (by decide) ?_
                                        refine va_put (D := (dC, dI)) (ci := 7) (v := .int 0) (ty := .int) (C := RX7) (T := TX7) (N := 48) hx hb hts inX7 tyX7 tyX7_ok nmX7 hown hK hP hD hS 0 rfl rfl 23 (by decide) (hts _ wd_387) (fun _ h9 => h9) rfl (by decide +kernel) rfl rfl (Nat.le_of_ble_eq_true rfl) dX7_court_291 (fun H locs hP hD hS => ?_)
                                        obtain ⟨hP, hD⟩ := wl2 (ws' := [(oc7 oM x_7259 rM_tape 0 p0 z_7291 z_7292 z_7293 z_7294 z_7295 z_7296 z_7297 x_7260 rM_letters z_7298 1 rM_r rM_fresh rM_told rM_read rM_st rM_undone rM_kept 0 0 rM_fresher z_7299 x_7331 iM_night rM_heardRow rM_cutRow iM_breaths iM_cutMany iM_allBreaths rM_trial rM_words iM_fewestBreaths iM_orderMany iM_orderSum iM_leastOrder rM_often iM_setMany iM_someOf iM_allOf iM_allWeight iM_enoughWeight iM_worthSum iM_firstRest iM_leastDrawn), (arI rM_tape kM_tape 900 fM_tape), (arI rM_letters kM_letters 8 f_7300), (arI rM_undone kM_undone 1440 fM_undone), (arI rM_kept kM_kept 270 fM_kept), (arI rM_fresher kM_fresher 8 f_7303), (arI rM_fresh kM_fresh 287 f_7301), (arI rM_r kM_r 287 f_7328), (arI rM_told kM_told 90 f_7329), (arI rM_read kM_read 90 f_7302), (arI rM_st kM_st 90 f_7330)]) hP hD rfl
                                        refine lv_aload_n hx hb dX7_court_294 rfl (lv_at hl 1 rfl) ?_
                                        refine va_get (D := (dC, dI)) (ci := 7) (v := .ref rM_r) (C := RX7) (T := TX7) (N := 48) hx hb hts inX7 hown hK hP 0 rfl rfl 15 (by decide) (hts _ wd_155) (fun _ h9 => h9) rfl dX7_court_295 ?_
                                        refine lv_iconst (v := 1) hx hb dX7_court_298 (by decide) ?_
                                        refine va_iald hx hb hK hP 7 6 rfl rfl (by unfold vp_in; decide) dX7_court_299 ?_
                                        refine lv_topi (fun x_7332 ex_7332 => ?_)
                                        have hG := hG.trans (lt_eq ex_7332)
                                        have cx_7332 : (f_7328 1).toInt = x_7332.toInt := congrArg Int32.toInt (show f_7328 1 = x_7332 from ex_7332.symm)
                                        have sx_7332 := r_R.nodes
                                        exact wq_i hx hb hr (cI x_7332) ⟨⟨trivial, trivial⟩, (cI_of x_7332)⟩ (fun t ht hW => ⟨x_7259, 0, p0, z_7291, z_7292, z_7293, z_7294, z_7295, z_7296, z_7297, x_7260, z_7298, 1, 0, 0, z_7299, x_7331, f_7300, f_7328, f_7301, f_7329, f_7302, f_7330, f_7303, (by decide), ⟨by omega, by omega⟩, b_z_7292, b_z_7295, b_z_7298, (by decide), (by decide), (by decide), b_x_7331, (by have q0 := kc_0; have q1 := kc_1; first | assumption | omega), (by have q0 := kc_0; have q1 := kc_1; first | assumption | omega), (by have q0 := kc_0; have q1 := kc_1; first | assumption | omega), (by have q0 := kc_0; have q1 := kc_1; first | assumption | omega), (by have q0 := kc_0; have q1 := kc_1; first | assumption | omega), (HistOk.none (by have q := kc_0; omega)), (HistOk.none (by have q := kc_0; omega)), hi1_n_7304, (by have q0 := kc_0; have q1 := kc_1; first | assumption | omega), (cI_tup hG), Bw.to (hP.sub [0, 1, 2, 7, 6, 8, 9, 10, 3, 4, 5] rfl) (hD.sub [0, 1, 2, 7, 6, 8, 9, 10, 3, 4, 5] (by decide) rfl) (hK.sub [0, 1, 6, 5, 7, 8, 9, 2, 3, 4] rfl) ht hW⟩) hS dX7_court_300 hlocks
                                      · skip
                                        have hG := hG.trans (if_neg c_7327)
                                        have gc_7327 := ti_nle c_7327 kc_0 rfl
                                        refine lv_aload_n hx hb dX7_court_214 rfl (lv_at hl 1 rfl) ?_
                                        refine va_get (D := (dC, dI)) (ci := 7) (v := .ref rM_fresh) (C := RX7) (T := TX7) (N := 48) hx hb hts inX7 hown hK hP 0 rfl rfl 16 (by decide) (hts _ wd_156) (fun _ h9 => h9) rfl dX7_court_215 ?_
                                        refine lv_bipush (v := 6) hx hb dX7_court_218 (by decide) ?_
                                        refine lv_aload_n hx hb dX7_court_220 rfl (lv_at hl 1 rfl) ?_
                                        refine va_get (D := (dC, dI)) (ci := 7) (v := .ref rM_fresh) (C := RX7) (T := TX7) (N := 48) hx hb hts inX7 hown hK hP 0 rfl rfl 16 (by decide) (hts _ wd_156) (fun _ h9 => h9) rfl dX7_court_221 ?_
                                        refine lv_iconst (v := 1) hx hb dX7_court_224 (by decide) ?_
                                        refine va_iald hx hb hK hP 4 3 rfl rfl (by unfold vp_in; decide) dX7_court_225 ?_
                                        refine lv_topi (fun x_7333 ex_7333 => ?_)
                                        have hG := hG.trans (lt_eq ex_7333)
                                        have cx_7333 : (f_7301 1).toInt = x_7333.toInt := congrArg Int32.toInt (show f_7301 1 = x_7333 from ex_7333.symm)
                                        refine lv_iconst (v := 1) hx hb dX7_court_226 (by decide) ?_
                                        refine lv_isub hx hb dX7_court_227 ?_
                                        refine lv_topi (fun x_7334 ex_7334 => ?_)
                                        have hG := hG.trans (lt_eq ex_7334)
                                        have vx_7334 : x_7334.toInt = x_7333.toInt + (-1) := om_89646172 (ti_sub ex_7334 rfl kc_1 (om_a5725a83 pl_f_7301.2.2.2.2.1.1 pl_f_7301.2.2.2.2.1.2 cx_7333) (om_1d5f9f43 pl_f_7301.2.1 pl_f_7301.2.2.1.2 pl_f_7301.2.2.2.2.2.1.2 cx_7333))
                                        refine va_iast hx hb hK hP hD hS 4 3 rfl rfl (by unfold vp_in; decide) dX7_court_228 (fun H locs hP hD hS => ?_)
                                        obtain ⟨f_7335, ef_7335⟩ : ∃ g : Nat → Int32, g = upd f_7301 (6 : Int32).toNatClampNeg x_7334 := ⟨_, rfl⟩
                                        rw [← ef_7335] at hP hD
                                        have hG := hG.trans (lt_eq ef_7335)
                                        obtain ⟨hP, hD⟩ := wl2 (ws' := [(oc7 oM x_7259 rM_tape 0 p0 z_7291 z_7292 z_7293 z_7294 z_7295 z_7296 z_7297 x_7260 rM_letters z_7298 iM_hasCourt rM_r rM_fresh rM_told rM_read rM_st rM_undone rM_kept iM_undos iM_images rM_fresher z_7299 iM_scale iM_night rM_heardRow rM_cutRow iM_breaths iM_cutMany iM_allBreaths rM_trial rM_words iM_fewestBreaths iM_orderMany iM_orderSum iM_leastOrder rM_often iM_setMany iM_someOf iM_allOf iM_allWeight iM_enoughWeight iM_worthSum iM_firstRest iM_leastDrawn), (arI rM_tape kM_tape 900 fM_tape), (arI rM_letters kM_letters 8 f_7300), (arI rM_r kM_r 287 fM_r), (arI rM_fresh kM_fresh 287 f_7335), (arI rM_told kM_told 90 fM_told), (arI rM_read kM_read 90 f_7302), (arI rM_st kM_st 90 fM_st), (arI rM_undone kM_undone 1440 fM_undone), (arI rM_kept kM_kept 270 fM_kept), (arI rM_fresher kM_fresher 8 f_7303)]) hP hD rfl
                                        have pk_f_7335 : POk f_7335 f_7302 := POk.put hi0_n_7304 ef_7335 (Or.inr (Or.inr (Or.inr (Or.inl (by have q9 : ((6 : Int32).toNatClampNeg : Nat) = 6 := rfl; omega)))))
                                        have pl_f_7335 := pk_f_7335.lins
                                        have o1_f_7335 : (f_7335 1).toInt = (f_7301 1).toInt := put_at ef_7335 (by decide)
                                        have o2_f_7335 : (f_7335 2).toInt = (f_7301 2).toInt := put_at ef_7335 (by decide)
                                        have o7_f_7335 : (f_7335 7).toInt = (f_7301 7).toInt := put_at ef_7335 (by decide)
                                        have i6_f_7335 : (f_7335 6).toInt = x_7334.toInt := put_is ef_7335 rfl
                                        refine lv_aload_n hx hb dX7_court_229 rfl (lv_at hl 1 rfl) ?_
                                        refine va_get (D := (dC, dI)) (ci := 7) (v := .ref rM_fresh) (C := RX7) (T := TX7) (N := 48) hx hb hts inX7 hown hK hP 0 rfl rfl 16 (by decide) (hts _ wd_156) (fun _ h9 => h9) rfl dX7_court_230 ?_
                                        refine lv_iconst (v := 0) hx hb dX7_court_233 (by decide) ?_
                                        refine lv_aload_n hx hb dX7_court_234 rfl (lv_at hl 1 rfl) ?_
                                        refine va_get (D := (dC, dI)) (ci := 7) (v := .ref rM_r) (C := RX7) (T := TX7) (N := 48) hx hb hts inX7 hown hK hP 0 rfl rfl 15 (by decide) (hts _ wd_155) (fun _ h9 => h9) rfl dX7_court_235 ?_
                                        refine lv_iconst (v := 0) hx hb dX7_court_238 (by decide) ?_
                                        refine lv_sipush (v := 287) hx hb dX7_court_239 (by decide) ?_
                                        have hFc := va_free (wc := [(arI rM_fresh kM_fresh 287 f_7335), (arI rM_r kM_r 287 fM_r)]) hD hS hA [4, 3] rfl
                                        refine va_callv (va_runS (As := [.ref rM_fresh, .int 0, .ref rM_r, .int 0, .int 287]) (rest := []) ⟨hx, hb, hml, hown, hts⟩ (tX7_copy_287_287 l dC dI _ rM_fresh f_7335 kM_fresh rM_r fM_r kM_r 0 0 287 ⟨(om_b1de7dbe kc_0), (om_b1de7dbe kc_0), (om_03d58641 kc_287)⟩ (om_29114139 kc_0 kc_287) (om_29114139 kc_0 kc_287)) (va_cwS 5 hts (wd_S wd_475 wd_476 wd_5 (wd_c wd_477)) rfl rfl rfl ds_yX7_copy_5 ⟨Nat.le_of_ble_eq_true rfl, Nat.le_of_ble_eq_true rfl⟩) ⟨Pw.fb, fun U hU hW => Pw.to (hP.sub [4, 3] rfl) (hD.sub [4, 3] (by decide) rfl) (hK.sub [3, 2] rfl) hE hS hFc hU hW⟩ rfl rfl hl.1 rfl (lv_room (Nat.le_of_ble_eq_true rfl)) dX7_court_242 ⟨Nat.le_of_ble_eq_true rfl, Nat.le_of_ble_eq_true rfl⟩) hS (fun q _ h => hFc q h) hFc (fun u t H locs ht hvm hw hB hz1 hk1 hS => ?_)
                                        refine ex_1_1 hB (fun f_7336 e_f_7336_0 hB => ?_)
                                        obtain ⟨hP, hD, hK⟩ := Bw.go (ws' := [(oc7 oM x_7259 rM_tape 0 p0 z_7291 z_7292 z_7293 z_7294 z_7295 z_7296 z_7297 x_7260 rM_letters z_7298 iM_hasCourt rM_r rM_fresh rM_told rM_read rM_st rM_undone rM_kept iM_undos iM_images rM_fresher z_7299 iM_scale iM_night rM_heardRow rM_cutRow iM_breaths iM_cutMany iM_allBreaths rM_trial rM_words iM_fewestBreaths iM_orderMany iM_orderSum iM_leastOrder rM_often iM_setMany iM_someOf iM_allOf iM_allWeight iM_enoughWeight iM_worthSum iM_firstRest iM_leastDrawn), (arI rM_tape kM_tape 900 fM_tape), (arI rM_letters kM_letters 8 f_7300), (arI rM_told kM_told 90 fM_told), (arI rM_read kM_read 90 f_7302), (arI rM_st kM_st 90 fM_st), (arI rM_undone kM_undone 1440 fM_undone), (arI rM_kept kM_kept 270 fM_kept), (arI rM_fresher kM_fresher 8 f_7303), (arI rM_fresh kM_fresh 287 f_7335), (arI rM_r kM_r 287 f_7336)]) (tys' := [(kM_tape, .int), (kM_letters, .int), (kM_told, .int), (kM_read, .int), (kM_st, .int), (kM_undone, .int), (kM_kept, .int), (kM_fresher, .int), (kM_fresh, .int), (kM_r, .int)]) hB rfl ht hvm hP hD hK [4, 3] [0, 1, 2, 5, 6, 7, 8, 9, 10] rfl (by decide) (by decide) [0, 1, 4, 5, 6, 7, 8, 9] hk1 hFc rfl rfl rfl
                                        clear hz1 hk1 hvm ht hB
                                        have cr9 := cp_all (m := 287) e_f_7336_0 rfl
                                        have r_R : ROk f_7336 := ROk.congr pk_f_7335.1.toR cr9
                                        have rq9 : RowOk f_7336 f_7302 := RowOk.fr pk_f_7335.2.1 (cr9 1 (by decide)) (fun k hk => cr9 _ (by omega))
                                        have o1_f_7336 : (f_7336 1).toInt = (f_7335 1).toInt := by rw [cr9 1 (by decide)]
                                        have o6_f_7336 : (f_7336 6).toInt = (f_7335 6).toInt := by rw [cr9 6 (by decide)]
                                        have s_nodes := r_R.nodes
                                        have hG := hG.trans (lt_eq (CopyOk.fn e_f_7336_0).symm)
                                        refine lv_aload_n hx hb dX7_court_245 rfl (lv_at hl 1 rfl) ?_
                                        refine va_get (D := (dC, dI)) (ci := 7) (v := .ref rM_read) (C := RX7) (T := TX7) (N := 48) hx hb hts inX7 hown hK hP 0 rfl rfl 18 (by decide) (hts _ wd_158) (fun _ h9 => h9) rfl dX7_court_246 ?_
                                        refine lv_iconst (v := 0) hx hb dX7_court_249 (by decide) ?_
                                        refine lv_aload_n hx hb dX7_court_250 rfl (lv_at hl 1 rfl) ?_
                                        refine va_get (D := (dC, dI)) (ci := 7) (v := .ref rM_told) (C := RX7) (T := TX7) (N := 48) hx hb hts inX7 hown hK hP 0 rfl rfl 17 (by decide) (hts _ wd_157) (fun _ h9 => h9) rfl dX7_court_251 ?_
                                        refine lv_iconst (v := 0) hx hb dX7_court_254 (by decide) ?_
                                        refine lv_bipush (v := 90) hx hb dX7_court_255 (by decide) ?_
                                        have hFc := va_free (wc := [(arI rM_read kM_read 90 f_7302), (arI rM_told kM_told 90 fM_told)]) hD hS hA [4, 3] rfl
                                        refine va_callv (va_runS (As := [.ref rM_read, .int 0, .ref rM_told, .int 0, .int 90]) (rest := []) ⟨hx, hb, hml, hown, hts⟩ (tX7_copy_90_90 l dC dI _ rM_read f_7302 kM_read rM_told fM_told kM_told 0 0 90 ⟨(om_b1de7dbe kc_0), (om_b1de7dbe kc_0), (om_34f60646 kc_90)⟩ (om_3b9d1022 kc_0 kc_90) (om_3b9d1022 kc_0 kc_90)) (va_cwS 5 hts (wd_S wd_475 wd_476 wd_5 (wd_c wd_477)) rfl rfl rfl ds_yX7_copy_5 ⟨Nat.le_of_ble_eq_true rfl, Nat.le_of_ble_eq_true rfl⟩) ⟨Pw.fb, fun U hU hW => Pw.to (hP.sub [4, 3] rfl) (hD.sub [4, 3] (by decide) rfl) (hK.sub [3, 2] rfl) hE hS hFc hU hW⟩ rfl rfl hl.1 rfl (lv_room (Nat.le_of_ble_eq_true rfl)) dX7_court_257 ⟨Nat.le_of_ble_eq_true rfl, Nat.le_of_ble_eq_true rfl⟩) hS (fun q _ h => hFc q h) hFc (fun u t H locs ht hvm hw hB hz1 hk1 hS => ?_)
                                        refine ex_1_1 hB (fun f_7337 e_f_7337_0 hB => ?_)
                                        obtain ⟨hP, hD, hK⟩ := Bw.go (ws' := [(oc7 oM x_7259 rM_tape 0 p0 z_7291 z_7292 z_7293 z_7294 z_7295 z_7296 z_7297 x_7260 rM_letters z_7298 iM_hasCourt rM_r rM_fresh rM_told rM_read rM_st rM_undone rM_kept iM_undos iM_images rM_fresher z_7299 iM_scale iM_night rM_heardRow rM_cutRow iM_breaths iM_cutMany iM_allBreaths rM_trial rM_words iM_fewestBreaths iM_orderMany iM_orderSum iM_leastOrder rM_often iM_setMany iM_someOf iM_allOf iM_allWeight iM_enoughWeight iM_worthSum iM_firstRest iM_leastDrawn), (arI rM_tape kM_tape 900 fM_tape), (arI rM_letters kM_letters 8 f_7300), (arI rM_st kM_st 90 fM_st), (arI rM_undone kM_undone 1440 fM_undone), (arI rM_kept kM_kept 270 fM_kept), (arI rM_fresher kM_fresher 8 f_7303), (arI rM_fresh kM_fresh 287 f_7335), (arI rM_r kM_r 287 f_7336), (arI rM_read kM_read 90 f_7302), (arI rM_told kM_told 90 f_7337)]) (tys' := [(kM_tape, .int), (kM_letters, .int), (kM_st, .int), (kM_undone, .int), (kM_kept, .int), (kM_fresher, .int), (kM_fresh, .int), (kM_r, .int), (kM_read, .int), (kM_told, .int)]) hB rfl ht hvm hP hD hK [4, 3] [0, 1, 2, 5, 6, 7, 8, 9, 10] rfl (by decide) (by decide) [0, 1, 4, 5, 6, 7, 8, 9] hk1 hFc rfl rfl rfl
                                        clear hz1 hk1 hvm ht hB
                                        have r_f_7337 : RowOk f_7336 f_7337 := RowOk.copy r_R rq9 e_f_7337_0
                                        have hG := hG.trans (lt_eq (CopyOk.fn e_f_7337_0).symm)
                                        refine lv_aload_n hx hb dX7_court_260 rfl (lv_at hl 1 rfl) ?_
                                        refine va_get (D := (dC, dI)) (ci := 7) (v := .ref rM_read) (C := RX7) (T := TX7) (N := 48) hx hb hts inX7 hown hK hP 0 rfl rfl 18 (by decide) (hts _ wd_158) (fun _ h9 => h9) rfl dX7_court_261 ?_
                                        refine lv_iconst (v := 0) hx hb dX7_court_264 (by decide) ?_
                                        refine lv_aload_n hx hb dX7_court_265 rfl (lv_at hl 1 rfl) ?_
                                        refine va_get (D := (dC, dI)) (ci := 7) (v := .ref rM_st) (C := RX7) (T := TX7) (N := 48) hx hb hts inX7 hown hK hP 0 rfl rfl 19 (by decide) (hts _ wd_159) (fun _ h9 => h9) rfl dX7_court_266 ?_
                                        refine lv_iconst (v := 0) hx hb dX7_court_269 (by decide) ?_
                                        refine lv_bipush (v := 90) hx hb dX7_court_270 (by decide) ?_
                                        have hFc := va_free (wc := [(arI rM_read kM_read 90 f_7302), (arI rM_st kM_st 90 fM_st)]) hD hS hA [9, 3] rfl
                                        refine va_callv (va_runS (As := [.ref rM_read, .int 0, .ref rM_st, .int 0, .int 90]) (rest := []) ⟨hx, hb, hml, hown, hts⟩ (tX7_copy_90_90 l dC dI _ rM_read f_7302 kM_read rM_st fM_st kM_st 0 0 90 ⟨(om_b1de7dbe kc_0), (om_b1de7dbe kc_0), (om_34f60646 kc_90)⟩ (om_3b9d1022 kc_0 kc_90) (om_3b9d1022 kc_0 kc_90)) (va_cwS 5 hts (wd_S wd_475 wd_476 wd_5 (wd_c wd_477)) rfl rfl rfl ds_yX7_copy_5 ⟨Nat.le_of_ble_eq_true rfl, Nat.le_of_ble_eq_true rfl⟩) ⟨Pw.fb, fun U hU hW => Pw.to (hP.sub [9, 3] rfl) (hD.sub [9, 3] (by decide) rfl) (hK.sub [8, 2] rfl) hE hS hFc hU hW⟩ rfl rfl hl.1 rfl (lv_room (Nat.le_of_ble_eq_true rfl)) dX7_court_272 ⟨Nat.le_of_ble_eq_true rfl, Nat.le_of_ble_eq_true rfl⟩) hS (fun q _ h => hFc q h) hFc (fun u t H locs ht hvm hw hB hz1 hk1 hS => ?_)
                                        refine ex_1_1 hB (fun f_7338 e_f_7338_0 hB => ?_)
                                        obtain ⟨hP, hD, hK⟩ := Bw.go (ws' := [(oc7 oM x_7259 rM_tape 0 p0 z_7291 z_7292 z_7293 z_7294 z_7295 z_7296 z_7297 x_7260 rM_letters z_7298 iM_hasCourt rM_r rM_fresh rM_told rM_read rM_st rM_undone rM_kept iM_undos iM_images rM_fresher z_7299 iM_scale iM_night rM_heardRow rM_cutRow iM_breaths iM_cutMany iM_allBreaths rM_trial rM_words iM_fewestBreaths iM_orderMany iM_orderSum iM_leastOrder rM_often iM_setMany iM_someOf iM_allOf iM_allWeight iM_enoughWeight iM_worthSum iM_firstRest iM_leastDrawn), (arI rM_tape kM_tape 900 fM_tape), (arI rM_letters kM_letters 8 f_7300), (arI rM_undone kM_undone 1440 fM_undone), (arI rM_kept kM_kept 270 fM_kept), (arI rM_fresher kM_fresher 8 f_7303), (arI rM_fresh kM_fresh 287 f_7335), (arI rM_r kM_r 287 f_7336), (arI rM_told kM_told 90 f_7337), (arI rM_read kM_read 90 f_7302), (arI rM_st kM_st 90 f_7338)]) (tys' := [(kM_tape, .int), (kM_letters, .int), (kM_undone, .int), (kM_kept, .int), (kM_fresher, .int), (kM_fresh, .int), (kM_r, .int), (kM_told, .int), (kM_read, .int), (kM_st, .int)]) hB rfl ht hvm hP hD hK [9, 3] [0, 1, 2, 4, 5, 6, 7, 8, 10] rfl (by decide) (by decide) [0, 1, 3, 4, 5, 6, 7, 9] hk1 hFc rfl rfl rfl
                                        clear hz1 hk1 hvm ht hB
                                        have r_f_7338 : RowOk f_7336 f_7338 := RowOk.copy r_R rq9 e_f_7338_0
                                        have w_f_7338 : WorOk f_7338 := WorOk.congr pk_f_7335.2.2 (fun j _ h2 => cp_all (m := 90) e_f_7338_0 rfl j h2)
                                        have hG := hG.trans (lt_eq (CopyOk.fn e_f_7338_0).symm)
                                        refine lv_aload_n hx hb dX7_court_275 rfl (lv_at hl 1 rfl) ?_
                                        have hMs := ml_of hD [true, false, false, false, false, false, false, true, false, false, false] (wc := [(oc7 oM x_7259 rM_tape 0 p0 z_7291 z_7292 z_7293 z_7294 z_7295 z_7296 z_7297 x_7260 rM_letters z_7298 iM_hasCourt rM_r rM_fresh rM_told rM_read rM_st rM_undone rM_kept iM_undos iM_images rM_fresher z_7299 iM_scale iM_night rM_heardRow rM_cutRow iM_breaths iM_cutMany iM_allBreaths rM_trial rM_words iM_fewestBreaths iM_orderMany iM_orderSum iM_leastOrder rM_often iM_setMany iM_someOf iM_allOf iM_allWeight iM_enoughWeight iM_worthSum iM_firstRest iM_leastDrawn), (arI rM_r kM_r 287 f_7336)]) rfl
                                        have hFc := va_freeM hD hS hA _ hMs
                                        refine va_callv (va_runV (As := []) (rest := []) ⟨hx, hb, hml, hown, hts⟩ (tX7_layScale l dC dI _ oM x_7259 rM_tape 0 p0 z_7291 z_7292 z_7293 z_7294 z_7295 z_7296 z_7297 x_7260 rM_letters z_7298 iM_hasCourt rM_r f_7336 kM_r rM_fresh rM_told rM_read rM_st rM_undone rM_kept iM_undos iM_images rM_fresher z_7299 iM_scale iM_night rM_heardRow rM_cutRow iM_breaths iM_cutMany iM_allBreaths rM_trial rM_words iM_fewestBreaths iM_orderMany iM_orderSum iM_leastOrder rM_often iM_setMany iM_someOf iM_allOf iM_allWeight iM_enoughWeight iM_worthSum iM_firstRest iM_leastDrawn (by first | decide | omega) (by first | exact ⟨by omega, by omega⟩ | omega | decide) b_z_7292 b_z_7298 b_iM_hasCourt b_iM_undos b_iM_images b_iM_scale b_iM_breaths b_iM_cutMany (by assumption) (by first | assumption | omega)) (cwV 0 hts (wd_V wd_502 wd_503 wd_504 wd_5 (wd_c wd_505)) rfl rfl rfl dv_yX7_layScale_0 ⟨Nat.le_of_ble_eq_true rfl, Nat.le_of_ble_eq_true rfl⟩) ⟨Pw.fb, recvX7 hK hP (q0 := 0) rfl, fun U hU hW => Pw.to (hP.ms _ hMs) (hD.ms _ hMs) (hK.ms [false, false, false, false, false, false, true, false, false, false] rfl) hE hS hFc hU hW⟩ rfl rfl hl.1 rfl (lv_room (Nat.le_of_ble_eq_true rfl)) dX7_court_276 ⟨Nat.le_of_ble_eq_true rfl, Nat.le_of_ble_eq_true rfl⟩) hS (fun q _ h => hFc q h) hFc (fun u t H locs ht hvm hw hB hz1 hk1 hS => ?_)
                                        refine ex_1_2 hB (fun x_7339 b_x_7339 e_x_7339_0 hB => ?_)
                                        obtain ⟨hP, hD⟩ := Bw.goN (ws' := [(oc7 oM x_7259 rM_tape 0 p0 z_7291 z_7292 z_7293 z_7294 z_7295 z_7296 z_7297 x_7260 rM_letters z_7298 iM_hasCourt rM_r rM_fresh rM_told rM_read rM_st rM_undone rM_kept iM_undos iM_images rM_fresher z_7299 x_7339 iM_night rM_heardRow rM_cutRow iM_breaths iM_cutMany iM_allBreaths rM_trial rM_words iM_fewestBreaths iM_orderMany iM_orderSum iM_leastOrder rM_often iM_setMany iM_someOf iM_allOf iM_allWeight iM_enoughWeight iM_worthSum iM_firstRest iM_leastDrawn), (arI rM_tape kM_tape 900 fM_tape), (arI rM_letters kM_letters 8 f_7300), (arI rM_undone kM_undone 1440 fM_undone), (arI rM_kept kM_kept 270 fM_kept), (arI rM_fresher kM_fresher 8 f_7303), (arI rM_fresh kM_fresh 287 f_7335), (arI rM_r kM_r 287 f_7336), (arI rM_told kM_told 90 f_7337), (arI rM_read kM_read 90 f_7302), (arI rM_st kM_st 90 f_7338)]) hB rfl ht hP hD _ hMs hk1 hFc rfl
                                        clear hz1 hk1 hvm ht hB hMs
                                        have hG := hG.trans (lt_eq e_x_7339_0.symm)
                                        refine lv_aload_n hx hb dX7_court_279 rfl (lv_at hl 1 rfl) ?_
                                        refine lv_iconst (v := 1) hx hb dX7_court_280 (by decide) ?_
                                        refine va_put (D := (dC, dI)) (ci := 7) (v := .int 1) (ty := .boolean) (C := RX7) (T := TX7) (N := 48) hx hb hts inX7 tyX7 tyX7_ok nmX7 hown hK hP hD hS 0 rfl rfl 14 (by decide) (hts _ wd_385) (fun _ h9 => h9) rfl (by decide +kernel) rfl rfl (Nat.le_of_ble_eq_true rfl) dX7_court_281 (fun H locs hP hD hS => ?_)
                                        obtain ⟨hP, hD⟩ := wl2 (ws' := [(oc7 oM x_7259 rM_tape 0 p0 z_7291 z_7292 z_7293 z_7294 z_7295 z_7296 z_7297 x_7260 rM_letters z_7298 1 rM_r rM_fresh rM_told rM_read rM_st rM_undone rM_kept iM_undos iM_images rM_fresher z_7299 x_7339 iM_night rM_heardRow rM_cutRow iM_breaths iM_cutMany iM_allBreaths rM_trial rM_words iM_fewestBreaths iM_orderMany iM_orderSum iM_leastOrder rM_often iM_setMany iM_someOf iM_allOf iM_allWeight iM_enoughWeight iM_worthSum iM_firstRest iM_leastDrawn), (arI rM_tape kM_tape 900 fM_tape), (arI rM_letters kM_letters 8 f_7300), (arI rM_undone kM_undone 1440 fM_undone), (arI rM_kept kM_kept 270 fM_kept), (arI rM_fresher kM_fresher 8 f_7303), (arI rM_fresh kM_fresh 287 f_7335), (arI rM_r kM_r 287 f_7336), (arI rM_told kM_told 90 f_7337), (arI rM_read kM_read 90 f_7302), (arI rM_st kM_st 90 f_7338)]) hP hD rfl
                                        refine lv_aload_n hx hb dX7_court_284 rfl (lv_at hl 1 rfl) ?_
                                        refine lv_iconst (v := 0) hx hb dX7_court_285 (by decide) ?_
                                        refine va_put (D := (dC, dI)) (ci := 7) (v := .int 0) (ty := .int) (C := RX7) (T := TX7) (N := 48) hx hb hts inX7 tyX7 tyX7_ok nmX7 hown hK hP hD hS 0 rfl rfl 22 (by decide) (hts _ wd_386) (fun _ h9 => h9) rfl (by decide +kernel) rfl rfl (Nat.le_of_ble_eq_true rfl) dX7_court_286 (fun H locs hP hD hS => ?_)
                                        obtain ⟨hP, hD⟩ := wl2 (ws' := [(oc7 oM x_7259 rM_tape 0 p0 z_7291 z_7292 z_7293 z_7294 z_7295 z_7296 z_7297 x_7260 rM_letters z_7298 1 rM_r rM_fresh rM_told rM_read rM_st rM_undone rM_kept 0 iM_images rM_fresher z_7299 x_7339 iM_night rM_heardRow rM_cutRow iM_breaths iM_cutMany iM_allBreaths rM_trial rM_words iM_fewestBreaths iM_orderMany iM_orderSum iM_leastOrder rM_often iM_setMany iM_someOf iM_allOf iM_allWeight iM_enoughWeight iM_worthSum iM_firstRest iM_leastDrawn), (arI rM_tape kM_tape 900 fM_tape), (arI rM_letters kM_letters 8 f_7300), (arI rM_undone kM_undone 1440 fM_undone), (arI rM_kept kM_kept 270 fM_kept), (arI rM_fresher kM_fresher 8 f_7303), (arI rM_fresh kM_fresh 287 f_7335), (arI rM_r kM_r 287 f_7336), (arI rM_told kM_told 90 f_7337), (arI rM_read kM_read 90 f_7302), (arI rM_st kM_st 90 f_7338)]) hP hD rfl
                                        refine lv_aload_n hx hb dX7_court_289 rfl (lv_at hl 1 rfl) ?_
                                        refine lv_iconst (v := 0) hx hb dX7_court_290 (by decide) ?_
                                        refine va_put (D := (dC, dI)) (ci := 7) (v := .int 0) (ty := .int) (C := RX7) (T := TX7) (N := 48) hx hb hts inX7 tyX7 tyX7_ok nmX7 hown hK hP hD hS 0 rfl rfl 23 (by decide) (hts _ wd_387) (fun _ h9 => h9) rfl (by decide +kernel) rfl rfl (Nat.le_of_ble_eq_true rfl) dX7_court_291 (fun H locs hP hD hS => ?_)
                                        obtain ⟨hP, hD⟩ := wl2 (ws' := [(oc7 oM x_7259 rM_tape 0 p0 z_7291 z_7292 z_7293 z_7294 z_7295 z_7296 z_7297 x_7260 rM_letters z_7298 1 rM_r rM_fresh rM_told rM_read rM_st rM_undone rM_kept 0 0 rM_fresher z_7299 x_7339 iM_night rM_heardRow rM_cutRow iM_breaths iM_cutMany iM_allBreaths rM_trial rM_words iM_fewestBreaths iM_orderMany iM_orderSum iM_leastOrder rM_often iM_setMany iM_someOf iM_allOf iM_allWeight iM_enoughWeight iM_worthSum iM_firstRest iM_leastDrawn), (arI rM_tape kM_tape 900 fM_tape), (arI rM_letters kM_letters 8 f_7300), (arI rM_undone kM_undone 1440 fM_undone), (arI rM_kept kM_kept 270 fM_kept), (arI rM_fresher kM_fresher 8 f_7303), (arI rM_fresh kM_fresh 287 f_7335), (arI rM_r kM_r 287 f_7336), (arI rM_told kM_told 90 f_7337), (arI rM_read kM_read 90 f_7302), (arI rM_st kM_st 90 f_7338)]) hP hD rfl
                                        refine lv_aload_n hx hb dX7_court_294 rfl (lv_at hl 1 rfl) ?_
                                        refine va_get (D := (dC, dI)) (ci := 7) (v := .ref rM_r) (C := RX7) (T := TX7) (N := 48) hx hb hts inX7 hown hK hP 0 rfl rfl 15 (by decide) (hts _ wd_155) (fun _ h9 => h9) rfl dX7_court_295 ?_
                                        refine lv_iconst (v := 1) hx hb dX7_court_298 (by decide) ?_
                                        refine va_iald hx hb hK hP 7 6 rfl rfl (by unfold vp_in; decide) dX7_court_299 ?_
                                        refine lv_topi (fun x_7340 ex_7340 => ?_)
                                        have hG := hG.trans (lt_eq ex_7340)
                                        have cx_7340 : (f_7336 1).toInt = x_7340.toInt := congrArg Int32.toInt (show f_7336 1 = x_7340 from ex_7340.symm)
                                        have sx_7340 := r_R.nodes
                                        exact wq_i hx hb hr (cI x_7340) ⟨⟨trivial, trivial⟩, (cI_of x_7340)⟩ (fun t ht hW => ⟨x_7259, 0, p0, z_7291, z_7292, z_7293, z_7294, z_7295, z_7296, z_7297, x_7260, z_7298, 1, 0, 0, z_7299, x_7339, f_7300, f_7336, f_7335, f_7337, f_7302, f_7338, f_7303, (by decide), ⟨by omega, by omega⟩, b_z_7292, b_z_7295, b_z_7298, (by decide), (by decide), (by decide), b_x_7339, (by have q0 := kc_0; have q1 := kc_1; first | assumption | omega), (by have q0 := kc_0; have q1 := kc_1; first | assumption | omega), (by have q0 := kc_0; have q1 := kc_1; first | assumption | omega), (by have q0 := kc_0; have q1 := kc_1; first | assumption | omega), (by have q0 := kc_0; have q1 := kc_1; first | assumption | omega), (HistOk.none (by have q := kc_0; omega)), (HistOk.none (by have q := kc_0; omega)), hi1_n_7304, (by have q0 := kc_0; have q1 := kc_1; first | assumption | omega), (cI_tup hG), Bw.to (hP.sub [0, 1, 2, 7, 6, 8, 9, 10, 3, 4, 5] rfl) (hD.sub [0, 1, 2, 7, 6, 8, 9, 10, 3, 4, 5] (by decide) rfl) (hK.sub [0, 1, 6, 5, 7, 8, 9, 2, 3, 4] rfl) ht hW⟩) hS dX7_court_300 hlocks
                                    · skip
                                      have hG := hG.trans (if_neg c_7325)
                                      have gc_7325 := ti_ne c_7325 rfl kc_0
                                      replace gc_7325 : z_7298.toInt + 1 ≤ 0 := om_f992525b gc_7325 gc_7305
                                      exact ((om_5185113d b_z_7298.1 gc_7325)).elim
                                  · skip
                                    have hG := hG.trans (if_pos c_7324)
                                    have gc_7324 := ti_eq c_7324 rfl kc_0
                                    refine lv_aload_n hx hb dX7_court_181 rfl (lv_at hl 1 rfl) ?_
                                    refine lv_bipush (v := 6) hx hb dX7_court_182 (by decide) ?_
                                    refine lv_aload_n hx hb dX7_court_184 rfl (lv_at hl 1 rfl) ?_
                                    refine va_get (D := (dC, dI)) (ci := 7) (v := .int z_7291) (C := RX7) (T := TX7) (N := 48) hx hb hts inX7 hown hK hP 0 rfl rfl 4 (by decide) (hts _ wd_384) (fun _ h9 => h9) rfl dX7_court_185 ?_
                                    have hMs := ml_of hD [true, false, false, false, false, false, false, false, false, false, false] (wc := [(oc7 oM x_7259 rM_tape 0 p0 z_7291 z_7292 z_7293 z_7294 z_7295 z_7296 z_7297 x_7260 rM_letters z_7298 iM_hasCourt rM_r rM_fresh rM_told rM_read rM_st rM_undone rM_kept iM_undos iM_images rM_fresher z_7299 iM_scale iM_night rM_heardRow rM_cutRow iM_breaths iM_cutMany iM_allBreaths rM_trial rM_words iM_fewestBreaths iM_orderMany iM_orderSum iM_leastOrder rM_often iM_setMany iM_someOf iM_allOf iM_allWeight iM_enoughWeight iM_worthSum iM_firstRest iM_leastDrawn)]) rfl
                                    have hFc := va_freeM hD hS hA _ hMs
                                    refine va_callv (va_runV (As := [.int 6, .int z_7291]) (rest := []) ⟨hx, hb, hml, hown, hts⟩ (tX7_wrong l dC dI _ oM x_7259 rM_tape 0 p0 z_7291 z_7292 z_7293 z_7294 z_7295 z_7296 z_7297 x_7260 rM_letters z_7298 iM_hasCourt rM_r rM_fresh rM_told rM_read rM_st rM_undone rM_kept iM_undos iM_images rM_fresher z_7299 iM_scale iM_night rM_heardRow rM_cutRow iM_breaths iM_cutMany iM_allBreaths rM_trial rM_words iM_fewestBreaths iM_orderMany iM_orderSum iM_leastOrder rM_often iM_setMany iM_someOf iM_allOf iM_allWeight iM_enoughWeight iM_worthSum iM_firstRest iM_leastDrawn 6 z_7291 (by first | decide | omega) (by first | exact ⟨by omega, by omega⟩ | omega | decide) b_z_7292 b_z_7295 b_z_7298 b_iM_hasCourt b_iM_undos b_iM_images b_iM_scale b_iM_breaths b_iM_cutMany hi1_n_7304) (cwV 2 hts (wd_V wd_430 wd_431 wd_432 wd_5 (wd_c wd_433)) rfl rfl rfl dv_yX7_wrong_2 ⟨Nat.le_of_ble_eq_true rfl, Nat.le_of_ble_eq_true rfl⟩) ⟨Pw.fb, recvX7 hK hP (q0 := 0) rfl, fun U hU hW => Pw.to (hP.ms _ hMs) (hD.ms _ hMs) (hK.ms [false, false, false, false, false, false, false, false, false, false] rfl) hE hS hFc hU hW⟩ rfl rfl hl.1 rfl (lv_room (Nat.le_of_ble_eq_true rfl)) dX7_court_188 ⟨Nat.le_of_ble_eq_true rfl, Nat.le_of_ble_eq_true rfl⟩) hS (fun q _ h => hFc q h) hFc (fun u t H locs ht hvm hw hB hz1 hk1 hS => ?_)
                                    refine ex_3_3 hB (fun x_7341 x_7342 x_7343 b_x_7343 e_x_7341_0 e_x_7341_1 hB => ?_)
                                    obtain ⟨hP, hD⟩ := Bw.goN (ws' := [(oc7 oM x_7259 rM_tape 0 p0 z_7291 z_7292 z_7293 z_7294 z_7295 x_7341 x_7342 x_7260 rM_letters x_7343 iM_hasCourt rM_r rM_fresh rM_told rM_read rM_st rM_undone rM_kept iM_undos iM_images rM_fresher z_7299 iM_scale iM_night rM_heardRow rM_cutRow iM_breaths iM_cutMany iM_allBreaths rM_trial rM_words iM_fewestBreaths iM_orderMany iM_orderSum iM_leastOrder rM_often iM_setMany iM_someOf iM_allOf iM_allWeight iM_enoughWeight iM_worthSum iM_firstRest iM_leastDrawn), (arI rM_tape kM_tape 900 fM_tape), (arI rM_letters kM_letters 8 f_7300), (arI rM_r kM_r 287 fM_r), (arI rM_fresh kM_fresh 287 f_7301), (arI rM_told kM_told 90 fM_told), (arI rM_read kM_read 90 f_7302), (arI rM_st kM_st 90 fM_st), (arI rM_undone kM_undone 1440 fM_undone), (arI rM_kept kM_kept 270 fM_kept), (arI rM_fresher kM_fresher 8 f_7303)]) hB rfl ht hP hD _ hMs hk1 hFc rfl
                                    clear hz1 hk1 hvm ht hB hMs
                                    have hG := hG.trans (un3_eq e_x_7341_1)
                                    refine lv_aload_n hx hb dX7_court_191 rfl (lv_at hl 1 rfl) ?_
                                    refine va_get (D := (dC, dI)) (ci := 7) (v := .int x_7343) (C := RX7) (T := TX7) (N := 48) hx hb hts inX7 hown hK hP 0 rfl rfl 13 (by decide) (hts _ wd_380) (fun _ h9 => h9) rfl dX7_court_192 ?_
                                    refine lv_if_eq (tgt := 204) hx hb dX7_court_195 (by decide) (fun c_7344 => ?_) (fun c_7344 => ?_)
                                    · skip
                                      have hG := hG.trans (if_pos c_7344)
                                      have gc_7344 := ti_eq c_7344 rfl kc_0
                                      exact ((om_b1155cdc e_x_7341_0 gc_7344)).elim
                                    · skip
                                      have hG := hG.trans (if_neg c_7344)
                                      have gc_7344 := ti_ne c_7344 rfl kc_0
                                      replace gc_7344 : (-1) * x_7343.toInt + 1 ≤ 0 := om_e3003f79 gc_7344 b_x_7343.1
                                      refine lv_aload_n hx hb dX7_court_198 rfl (lv_at hl 1 rfl) ?_
                                      refine lv_iconst (v := 4) hx hb dX7_court_199 (by decide) ?_
                                      have hMs := ml_of hD [true, false, false, false, false, false, false, false, false, false, false] (wc := [(oc7 oM x_7259 rM_tape 0 p0 z_7291 z_7292 z_7293 z_7294 z_7295 x_7341 x_7342 x_7260 rM_letters x_7343 iM_hasCourt rM_r rM_fresh rM_told rM_read rM_st rM_undone rM_kept iM_undos iM_images rM_fresher z_7299 iM_scale iM_night rM_heardRow rM_cutRow iM_breaths iM_cutMany iM_allBreaths rM_trial rM_words iM_fewestBreaths iM_orderMany iM_orderSum iM_leastOrder rM_often iM_setMany iM_someOf iM_allOf iM_allWeight iM_enoughWeight iM_worthSum iM_firstRest iM_leastDrawn)]) rfl
                                      have hFc := va_freeM hD hS hA _ hMs
                                      refine va_calli (va_runV (As := [.int 4]) (rest := []) ⟨hx, hb, hml, hown, hts⟩ (tX7_no l dC dI _ oM x_7259 rM_tape 0 p0 z_7291 z_7292 z_7293 z_7294 z_7295 x_7341 x_7342 x_7260 rM_letters x_7343 iM_hasCourt rM_r rM_fresh rM_told rM_read rM_st rM_undone rM_kept iM_undos iM_images rM_fresher z_7299 iM_scale iM_night rM_heardRow rM_cutRow iM_breaths iM_cutMany iM_allBreaths rM_trial rM_words iM_fewestBreaths iM_orderMany iM_orderSum iM_leastOrder rM_often iM_setMany iM_someOf iM_allOf iM_allWeight iM_enoughWeight iM_worthSum iM_firstRest iM_leastDrawn 4 (by first | decide | omega) (by first | exact ⟨by omega, by omega⟩ | omega | decide) b_z_7292 b_x_7343 b_iM_hasCourt b_iM_undos b_iM_images b_iM_scale b_iM_breaths b_iM_cutMany) (cwV 1 hts (wd_V wd_396 wd_397 wd_398 wd_5 (wd_c wd_399)) rfl rfl rfl dv_yX7_no_1 ⟨Nat.le_of_ble_eq_true rfl, Nat.le_of_ble_eq_true rfl⟩) ⟨Pw.fb, recvX7 hK hP (q0 := 0) rfl, fun U hU hW => Pw.to (hP.ms _ hMs) (hD.ms _ hMs) (hK.ms [false, false, false, false, false, false, false, false, false, false] rfl) hE hS hFc hU hW⟩ rfl rfl hl.1 rfl (lv_room (Nat.le_of_ble_eq_true rfl)) dX7_court_200 ⟨Nat.le_of_ble_eq_true rfl, Nat.le_of_ble_eq_true rfl⟩) hS (fun q _ h => hFc q h) hFc (fun r u t H locs ht hvm hw hB hz1 hk1 hS => ?_)
                                      have hru9 := hw.2
                                      have hw := hw.1
                                      refine ex_1_1 hB (fun x_7345 e_x_7345_0 hB => ?_)
                                      obtain ⟨hP, hD⟩ := Bw.goN (ws' := [(oc7 oM x_7259 rM_tape 0 p0 z_7291 z_7292 z_7293 z_7294 z_7295 x_7341 x_7342 x_7345 rM_letters x_7343 iM_hasCourt rM_r rM_fresh rM_told rM_read rM_st rM_undone rM_kept iM_undos iM_images rM_fresher z_7299 iM_scale iM_night rM_heardRow rM_cutRow iM_breaths iM_cutMany iM_allBreaths rM_trial rM_words iM_fewestBreaths iM_orderMany iM_orderSum iM_leastOrder rM_often iM_setMany iM_someOf iM_allOf iM_allWeight iM_enoughWeight iM_worthSum iM_firstRest iM_leastDrawn), (arI rM_tape kM_tape 900 fM_tape), (arI rM_letters kM_letters 8 f_7300), (arI rM_r kM_r 287 fM_r), (arI rM_fresh kM_fresh 287 f_7301), (arI rM_told kM_told 90 fM_told), (arI rM_read kM_read 90 f_7302), (arI rM_st kM_st 90 fM_st), (arI rM_undone kM_undone 1440 fM_undone), (arI rM_kept kM_kept 270 fM_kept), (arI rM_fresher kM_fresher 8 f_7303)]) hB rfl ht hP hD _ hMs hk1 hFc rfl
                                      clear hz1 hk1 hvm ht hB hMs
                                      rw [← hru9] at e_x_7345_0
                                      obtain ⟨x_7346, rfl⟩ : ∃ z, z = r := ⟨_, rfl⟩
                                      have hG := hG.trans (un2_eq e_x_7345_0)
                                      exact wq_i hx hb hr (cI x_7346) ⟨⟨trivial, trivial⟩, (cI_of x_7346)⟩ (fun t ht hW => ⟨x_7259, 0, p0, z_7291, z_7292, z_7293, z_7294, z_7295, x_7341, x_7342, x_7345, x_7343, iM_hasCourt, iM_undos, iM_images, z_7299, iM_scale, f_7300, fM_r, f_7301, fM_told, f_7302, fM_st, f_7303, (by decide), ⟨by omega, by omega⟩, b_z_7292, b_z_7295, b_x_7343, ⟨b_iM_hasCourt.1, b_iM_hasCourt.2⟩, ⟨b_iM_undos.1, b_iM_undos.2⟩, ⟨b_iM_images.1, b_iM_images.2⟩, ⟨b_iM_scale.1, b_iM_scale.2⟩, (by have q0 := kc_0; have q1 := kc_1; first | assumption | omega), (by have q0 := kc_0; have q1 := kc_1; first | assumption | omega), (by have q0 := kc_0; have q1 := kc_1; first | assumption | omega), (by have q0 := kc_0; have q1 := kc_1; first | assumption | omega), (by have q0 := kc_0; have q1 := kc_1; first | assumption | omega), (by have q0 := kc_0; have q1 := kc_1; first | assumption | omega), (by have q0 := kc_0; have q1 := kc_1; first | assumption | omega), hi1_n_7304, (by have q0 := kc_0; have q1 := kc_1; first | assumption | omega), (cI_tup hG), Bw.to hP hD hK ht hW⟩) hS dX7_court_203 hlocks
                            · skip
                              have hG := hG.trans (if_neg c_7313)
                              have gc_7313 := ti_ne c_7313 rfl kc_0
                              clear gc_7313
                              refine lv_aload_n hx hb dX7_court_147 rfl (lv_at hl 1 rfl) ?_
                              refine lv_iconst (v := 1) hx hb dX7_court_148 (by decide) ?_
                              refine lv_aload_n hx hb dX7_court_149 rfl (lv_at hl 1 rfl) ?_
                              refine va_get (D := (dC, dI)) (ci := 7) (v := .int z_7291) (C := RX7) (T := TX7) (N := 48) hx hb hts inX7 hown hK hP 0 rfl rfl 4 (by decide) (hts _ wd_384) (fun _ h9 => h9) rfl dX7_court_150 ?_
                              have hMs := ml_of hD [true, false, false, false, false, false, false, false, false, false, false] (wc := [(oc7 oM x_7259 rM_tape 0 p0 z_7291 z_7292 z_7293 z_7294 z_7295 z_7296 z_7297 x_7260 rM_letters z_7298 iM_hasCourt rM_r rM_fresh rM_told rM_read rM_st rM_undone rM_kept iM_undos iM_images rM_fresher z_7299 iM_scale iM_night rM_heardRow rM_cutRow iM_breaths iM_cutMany iM_allBreaths rM_trial rM_words iM_fewestBreaths iM_orderMany iM_orderSum iM_leastOrder rM_often iM_setMany iM_someOf iM_allOf iM_allWeight iM_enoughWeight iM_worthSum iM_firstRest iM_leastDrawn)]) rfl
                              have hFc := va_freeM hD hS hA _ hMs
                              refine va_callv (va_runV (As := [.int 1, .int z_7291]) (rest := []) ⟨hx, hb, hml, hown, hts⟩ (tX7_wrong l dC dI _ oM x_7259 rM_tape 0 p0 z_7291 z_7292 z_7293 z_7294 z_7295 z_7296 z_7297 x_7260 rM_letters z_7298 iM_hasCourt rM_r rM_fresh rM_told rM_read rM_st rM_undone rM_kept iM_undos iM_images rM_fresher z_7299 iM_scale iM_night rM_heardRow rM_cutRow iM_breaths iM_cutMany iM_allBreaths rM_trial rM_words iM_fewestBreaths iM_orderMany iM_orderSum iM_leastOrder rM_often iM_setMany iM_someOf iM_allOf iM_allWeight iM_enoughWeight iM_worthSum iM_firstRest iM_leastDrawn 1 z_7291 (by first | decide | omega) (by first | exact ⟨by omega, by omega⟩ | omega | decide) b_z_7292 b_z_7295 b_z_7298 b_iM_hasCourt b_iM_undos b_iM_images b_iM_scale b_iM_breaths b_iM_cutMany hi1_n_7304) (cwV 2 hts (wd_V wd_430 wd_431 wd_432 wd_5 (wd_c wd_433)) rfl rfl rfl dv_yX7_wrong_2 ⟨Nat.le_of_ble_eq_true rfl, Nat.le_of_ble_eq_true rfl⟩) ⟨Pw.fb, recvX7 hK hP (q0 := 0) rfl, fun U hU hW => Pw.to (hP.ms _ hMs) (hD.ms _ hMs) (hK.ms [false, false, false, false, false, false, false, false, false, false] rfl) hE hS hFc hU hW⟩ rfl rfl hl.1 rfl (lv_room (Nat.le_of_ble_eq_true rfl)) dX7_court_153 ⟨Nat.le_of_ble_eq_true rfl, Nat.le_of_ble_eq_true rfl⟩) hS (fun q _ h => hFc q h) hFc (fun u t H locs ht hvm hw hB hz1 hk1 hS => ?_)
                              refine ex_3_3 hB (fun x_7347 x_7348 x_7349 b_x_7349 e_x_7347_0 e_x_7347_1 hB => ?_)
                              obtain ⟨hP, hD⟩ := Bw.goN (ws' := [(oc7 oM x_7259 rM_tape 0 p0 z_7291 z_7292 z_7293 z_7294 z_7295 x_7347 x_7348 x_7260 rM_letters x_7349 iM_hasCourt rM_r rM_fresh rM_told rM_read rM_st rM_undone rM_kept iM_undos iM_images rM_fresher z_7299 iM_scale iM_night rM_heardRow rM_cutRow iM_breaths iM_cutMany iM_allBreaths rM_trial rM_words iM_fewestBreaths iM_orderMany iM_orderSum iM_leastOrder rM_often iM_setMany iM_someOf iM_allOf iM_allWeight iM_enoughWeight iM_worthSum iM_firstRest iM_leastDrawn), (arI rM_tape kM_tape 900 fM_tape), (arI rM_letters kM_letters 8 f_7300), (arI rM_r kM_r 287 fM_r), (arI rM_fresh kM_fresh 287 f_7301), (arI rM_told kM_told 90 fM_told), (arI rM_read kM_read 90 f_7302), (arI rM_st kM_st 90 fM_st), (arI rM_undone kM_undone 1440 fM_undone), (arI rM_kept kM_kept 270 fM_kept), (arI rM_fresher kM_fresher 8 f_7303)]) hB rfl ht hP hD _ hMs hk1 hFc rfl
                              clear hz1 hk1 hvm ht hB hMs
                              have hG := hG.trans (un3_eq e_x_7347_1)
                              refine lv_aload_n hx hb dX7_court_156 rfl (lv_at hl 1 rfl) ?_
                              refine va_get (D := (dC, dI)) (ci := 7) (v := .int x_7349) (C := RX7) (T := TX7) (N := 48) hx hb hts inX7 hown hK hP 0 rfl rfl 13 (by decide) (hts _ wd_380) (fun _ h9 => h9) rfl dX7_court_157 ?_
                              refine lv_if_ne (tgt := 191) hx hb dX7_court_160 (by decide) (fun c_7350 => ?_) (fun c_7350 => ?_)
                              · skip
                                have hG := hG.trans (if_neg c_7350)
                                have gc_7350 := ti_ne c_7350 rfl kc_0
                                replace gc_7350 : (-1) * x_7349.toInt + 1 ≤ 0 := om_e3003f79 gc_7350 b_x_7349.1
                                refine lv_aload_n hx hb dX7_court_191 rfl (lv_at hl 1 rfl) ?_
                                refine va_get (D := (dC, dI)) (ci := 7) (v := .int x_7349) (C := RX7) (T := TX7) (N := 48) hx hb hts inX7 hown hK hP 0 rfl rfl 13 (by decide) (hts _ wd_380) (fun _ h9 => h9) rfl dX7_court_192 ?_
                                refine lv_if_eq (tgt := 204) hx hb dX7_court_195 (by decide) (fun c_7351 => ?_) (fun c_7351 => ?_)
                                · skip
                                  have hG := hG.trans (if_pos c_7351)
                                  have gc_7351 := ti_eq c_7351 rfl kc_0
                                  exact ((om_b1155cdc e_x_7347_0 gc_7351)).elim
                                · skip
                                  have hG := hG.trans (if_neg c_7351)
                                  have gc_7351 := ti_ne c_7351 rfl kc_0
                                  replace gc_7351 : (-1) * x_7349.toInt + 1 ≤ 0 := om_e3003f79 gc_7351 b_x_7349.1
                                  refine lv_aload_n hx hb dX7_court_198 rfl (lv_at hl 1 rfl) ?_
                                  refine lv_iconst (v := 4) hx hb dX7_court_199 (by decide) ?_
                                  have hMs := ml_of hD [true, false, false, false, false, false, false, false, false, false, false] (wc := [(oc7 oM x_7259 rM_tape 0 p0 z_7291 z_7292 z_7293 z_7294 z_7295 x_7347 x_7348 x_7260 rM_letters x_7349 iM_hasCourt rM_r rM_fresh rM_told rM_read rM_st rM_undone rM_kept iM_undos iM_images rM_fresher z_7299 iM_scale iM_night rM_heardRow rM_cutRow iM_breaths iM_cutMany iM_allBreaths rM_trial rM_words iM_fewestBreaths iM_orderMany iM_orderSum iM_leastOrder rM_often iM_setMany iM_someOf iM_allOf iM_allWeight iM_enoughWeight iM_worthSum iM_firstRest iM_leastDrawn)]) rfl
                                  have hFc := va_freeM hD hS hA _ hMs
                                  refine va_calli (va_runV (As := [.int 4]) (rest := []) ⟨hx, hb, hml, hown, hts⟩ (tX7_no l dC dI _ oM x_7259 rM_tape 0 p0 z_7291 z_7292 z_7293 z_7294 z_7295 x_7347 x_7348 x_7260 rM_letters x_7349 iM_hasCourt rM_r rM_fresh rM_told rM_read rM_st rM_undone rM_kept iM_undos iM_images rM_fresher z_7299 iM_scale iM_night rM_heardRow rM_cutRow iM_breaths iM_cutMany iM_allBreaths rM_trial rM_words iM_fewestBreaths iM_orderMany iM_orderSum iM_leastOrder rM_often iM_setMany iM_someOf iM_allOf iM_allWeight iM_enoughWeight iM_worthSum iM_firstRest iM_leastDrawn 4 (by first | decide | omega) (by first | exact ⟨by omega, by omega⟩ | omega | decide) b_z_7292 b_x_7349 b_iM_hasCourt b_iM_undos b_iM_images b_iM_scale b_iM_breaths b_iM_cutMany) (cwV 1 hts (wd_V wd_396 wd_397 wd_398 wd_5 (wd_c wd_399)) rfl rfl rfl dv_yX7_no_1 ⟨Nat.le_of_ble_eq_true rfl, Nat.le_of_ble_eq_true rfl⟩) ⟨Pw.fb, recvX7 hK hP (q0 := 0) rfl, fun U hU hW => Pw.to (hP.ms _ hMs) (hD.ms _ hMs) (hK.ms [false, false, false, false, false, false, false, false, false, false] rfl) hE hS hFc hU hW⟩ rfl rfl hl.1 rfl (lv_room (Nat.le_of_ble_eq_true rfl)) dX7_court_200 ⟨Nat.le_of_ble_eq_true rfl, Nat.le_of_ble_eq_true rfl⟩) hS (fun q _ h => hFc q h) hFc (fun r u t H locs ht hvm hw hB hz1 hk1 hS => ?_)
                                  have hru9 := hw.2
                                  have hw := hw.1
                                  refine ex_1_1 hB (fun x_7352 e_x_7352_0 hB => ?_)
                                  obtain ⟨hP, hD⟩ := Bw.goN (ws' := [(oc7 oM x_7259 rM_tape 0 p0 z_7291 z_7292 z_7293 z_7294 z_7295 x_7347 x_7348 x_7352 rM_letters x_7349 iM_hasCourt rM_r rM_fresh rM_told rM_read rM_st rM_undone rM_kept iM_undos iM_images rM_fresher z_7299 iM_scale iM_night rM_heardRow rM_cutRow iM_breaths iM_cutMany iM_allBreaths rM_trial rM_words iM_fewestBreaths iM_orderMany iM_orderSum iM_leastOrder rM_often iM_setMany iM_someOf iM_allOf iM_allWeight iM_enoughWeight iM_worthSum iM_firstRest iM_leastDrawn), (arI rM_tape kM_tape 900 fM_tape), (arI rM_letters kM_letters 8 f_7300), (arI rM_r kM_r 287 fM_r), (arI rM_fresh kM_fresh 287 f_7301), (arI rM_told kM_told 90 fM_told), (arI rM_read kM_read 90 f_7302), (arI rM_st kM_st 90 fM_st), (arI rM_undone kM_undone 1440 fM_undone), (arI rM_kept kM_kept 270 fM_kept), (arI rM_fresher kM_fresher 8 f_7303)]) hB rfl ht hP hD _ hMs hk1 hFc rfl
                                  clear hz1 hk1 hvm ht hB hMs
                                  rw [← hru9] at e_x_7352_0
                                  obtain ⟨x_7353, rfl⟩ : ∃ z, z = r := ⟨_, rfl⟩
                                  have hG := hG.trans (un2_eq e_x_7352_0)
                                  exact wq_i hx hb hr (cI x_7353) ⟨⟨trivial, trivial⟩, (cI_of x_7353)⟩ (fun t ht hW => ⟨x_7259, 0, p0, z_7291, z_7292, z_7293, z_7294, z_7295, x_7347, x_7348, x_7352, x_7349, iM_hasCourt, iM_undos, iM_images, z_7299, iM_scale, f_7300, fM_r, f_7301, fM_told, f_7302, fM_st, f_7303, (by decide), ⟨by omega, by omega⟩, b_z_7292, b_z_7295, b_x_7349, ⟨b_iM_hasCourt.1, b_iM_hasCourt.2⟩, ⟨b_iM_undos.1, b_iM_undos.2⟩, ⟨b_iM_images.1, b_iM_images.2⟩, ⟨b_iM_scale.1, b_iM_scale.2⟩, (by have q0 := kc_0; have q1 := kc_1; first | assumption | omega), (by have q0 := kc_0; have q1 := kc_1; first | assumption | omega), (by have q0 := kc_0; have q1 := kc_1; first | assumption | omega), (by have q0 := kc_0; have q1 := kc_1; first | assumption | omega), (by have q0 := kc_0; have q1 := kc_1; first | assumption | omega), (by have q0 := kc_0; have q1 := kc_1; first | assumption | omega), (by have q0 := kc_0; have q1 := kc_1; first | assumption | omega), hi1_n_7304, (by have q0 := kc_0; have q1 := kc_1; first | assumption | omega), (cI_tup hG), Bw.to hP hD hK ht hW⟩) hS dX7_court_203 hlocks
                              · skip
                                have hG := hG.trans (if_pos c_7350)
                                have gc_7350 := ti_eq c_7350 rfl kc_0
                                exact ((om_b1155cdc e_x_7347_0 gc_7350)).elim
                        · skip
                          have hG := hG.trans (if_pos c_7311)
                          have gc_7311 := ti_eq c_7311 rfl kc_59
                          refine lv_aload_n hx hb dX7_court_122 rfl (lv_at hl 1 rfl) ?_
                          have hMs := ml_of hD [true, true, true, false, false, false, false, false, false, false, false] (wc := [(oc7 oM x_7259 rM_tape 0 p0 z_7291 z_7292 z_7293 z_7294 z_7295 z_7296 z_7297 x_7260 rM_letters z_7298 iM_hasCourt rM_r rM_fresh rM_told rM_read rM_st rM_undone rM_kept iM_undos iM_images rM_fresher z_7299 iM_scale iM_night rM_heardRow rM_cutRow iM_breaths iM_cutMany iM_allBreaths rM_trial rM_words iM_fewestBreaths iM_orderMany iM_orderSum iM_leastOrder rM_often iM_setMany iM_someOf iM_allOf iM_allWeight iM_enoughWeight iM_worthSum iM_firstRest iM_leastDrawn), (arI rM_tape kM_tape 900 fM_tape), (arI rM_letters kM_letters 8 f_7300)]) rfl
                          have hFc := va_freeM hD hS hA _ hMs
                          refine va_callv (va_runV (As := []) (rest := []) ⟨hx, hb, hml, hown, hts⟩ (tX7_next l dC dI _ oM x_7259 rM_tape fM_tape kM_tape 0 p0 z_7291 z_7292 z_7293 z_7294 z_7295 z_7296 z_7297 x_7260 rM_letters f_7300 kM_letters z_7298 iM_hasCourt rM_r rM_fresh rM_told rM_read rM_st rM_undone rM_kept iM_undos iM_images rM_fresher z_7299 iM_scale iM_night rM_heardRow rM_cutRow iM_breaths iM_cutMany iM_allBreaths rM_trial rM_words iM_fewestBreaths iM_orderMany iM_orderSum iM_leastOrder rM_often iM_setMany iM_someOf iM_allOf iM_allWeight iM_enoughWeight iM_worthSum iM_firstRest iM_leastDrawn (by first | decide | omega) (by first | exact ⟨by omega, by omega⟩ | omega | decide) b_z_7292 b_z_7295 b_z_7298 b_iM_hasCourt b_iM_undos b_iM_images b_iM_scale b_iM_breaths b_iM_cutMany hi1_n_7304) (cwV 0 hts (wd_V wd_400 wd_401 wd_402 wd_5 (wd_c wd_403)) rfl rfl rfl dv_yX7_next_0 ⟨Nat.le_of_ble_eq_true rfl, Nat.le_of_ble_eq_true rfl⟩) ⟨Pw.fb, recvX7 hK hP (q0 := 0) rfl, fun U hU hW => Pw.to (hP.ms _ hMs) (hD.ms _ hMs) (hK.ms [true, true, false, false, false, false, false, false, false, false] rfl) hE hS hFc hU hW⟩ rfl rfl hl.1 rfl (lv_room (Nat.le_of_ble_eq_true rfl)) dX7_court_123 ⟨Nat.le_of_ble_eq_true rfl, Nat.le_of_ble_eq_true rfl⟩) hS (fun q _ h => hFc q h) hFc (fun u t H locs ht hvm hw hB hz1 hk1 hS => ?_)
                          refine ex_6_6 hB (fun x_7354 x_7355 x_7356 x_7357 x_7358 f_7359 b_x_7355 b_x_7358 e_x_7354_0 e_x_7354_1 e_x_7354_2 e_x_7354_3 hB => ?_)
                          obtain ⟨hP, hD⟩ := Bw.goN (ws' := [(oc7 oM x_7259 rM_tape 0 p0 x_7354 x_7355 x_7356 x_7357 x_7358 z_7296 z_7297 x_7260 rM_letters z_7298 iM_hasCourt rM_r rM_fresh rM_told rM_read rM_st rM_undone rM_kept iM_undos iM_images rM_fresher z_7299 iM_scale iM_night rM_heardRow rM_cutRow iM_breaths iM_cutMany iM_allBreaths rM_trial rM_words iM_fewestBreaths iM_orderMany iM_orderSum iM_leastOrder rM_often iM_setMany iM_someOf iM_allOf iM_allWeight iM_enoughWeight iM_worthSum iM_firstRest iM_leastDrawn), (arI rM_tape kM_tape 900 fM_tape), (arI rM_letters kM_letters 8 f_7359), (arI rM_r kM_r 287 fM_r), (arI rM_fresh kM_fresh 287 f_7301), (arI rM_told kM_told 90 fM_told), (arI rM_read kM_read 90 f_7302), (arI rM_st kM_st 90 fM_st), (arI rM_undone kM_undone 1440 fM_undone), (arI rM_kept kM_kept 270 fM_kept), (arI rM_fresher kM_fresher 8 f_7303)]) hB rfl ht hP hD _ hMs hk1 hFc rfl
                          clear hz1 hk1 hvm ht hB hMs
                          have hG := hG.trans (un6_eq e_x_7354_3)
                          clear hi1_n_7304
                          refine lv_aload_n hx hb dX7_court_126 rfl (lv_at hl 1 rfl) ?_
                          have hMs := ml_of hD [true, true, true, false, true, false, true, false, false, false, true] (wc := [(oc7 oM x_7259 rM_tape 0 p0 x_7354 x_7355 x_7356 x_7357 x_7358 z_7296 z_7297 x_7260 rM_letters z_7298 iM_hasCourt rM_r rM_fresh rM_told rM_read rM_st rM_undone rM_kept iM_undos iM_images rM_fresher z_7299 iM_scale iM_night rM_heardRow rM_cutRow iM_breaths iM_cutMany iM_allBreaths rM_trial rM_words iM_fewestBreaths iM_orderMany iM_orderSum iM_leastOrder rM_often iM_setMany iM_someOf iM_allOf iM_allWeight iM_enoughWeight iM_worthSum iM_firstRest iM_leastDrawn), (arI rM_tape kM_tape 900 fM_tape), (arI rM_letters kM_letters 8 f_7359), (arI rM_fresh kM_fresh 287 f_7301), (arI rM_read kM_read 90 f_7302), (arI rM_fresher kM_fresher 8 f_7303)]) rfl
                          have hFc := va_freeM hD hS hA _ hMs
                          refine va_callv (va_runV (As := []) (rest := []) ⟨hx, hb, hml, hown, hts⟩ (tX7_readLine l dC dI _ oM x_7259 rM_tape fM_tape kM_tape 0 p0 x_7354 x_7355 x_7356 x_7357 x_7358 z_7296 z_7297 x_7260 rM_letters f_7359 kM_letters z_7298 iM_hasCourt rM_r rM_fresh f_7301 kM_fresh rM_told rM_read f_7302 kM_read rM_st rM_undone rM_kept iM_undos iM_images rM_fresher f_7303 kM_fresher z_7299 iM_scale iM_night rM_heardRow rM_cutRow iM_breaths iM_cutMany iM_allBreaths rM_trial rM_words iM_fewestBreaths iM_orderMany iM_orderSum iM_leastOrder rM_often iM_setMany iM_someOf iM_allOf iM_allWeight iM_enoughWeight iM_worthSum iM_firstRest iM_leastDrawn (by first | decide | omega) (by first | exact ⟨by omega, by omega⟩ | omega | decide) b_x_7355 b_x_7358 b_z_7298 b_iM_hasCourt b_iM_undos b_iM_images b_iM_scale b_iM_breaths b_iM_cutMany e_x_7354_1 hi0_n_7304) (cwV 0 hts (wd_V wd_416 wd_417 wd_418 wd_5 (wd_c wd_419)) rfl rfl rfl dv_yX7_readLine_0 ⟨Nat.le_of_ble_eq_true rfl, Nat.le_of_ble_eq_true rfl⟩) ⟨Pw.fb, recvX7 hK hP (q0 := 0) rfl, fun U hU hW => Pw.to (hP.ms _ hMs) (hD.ms _ hMs) (hK.ms [true, true, false, true, false, true, false, false, false, true] rfl) hE hS hFc hU hW⟩ rfl rfl hl.1 rfl (lv_room (Nat.le_of_ble_eq_true rfl)) dX7_court_127 ⟨Nat.le_of_ble_eq_true rfl, Nat.le_of_ble_eq_true rfl⟩) hS (fun q _ h => hFc q h) hFc (fun u t H locs ht hvm hw hB hz1 hk1 hS => ?_)
                          refine ex_13_9 hB (fun x_7360 x_7361 x_7362 x_7363 x_7364 x_7365 x_7366 x_7367 x_7368 f_7369 f_7370 f_7371 f_7372 b_x_7361 b_x_7364 b_x_7367 e_x_7360_0 e_x_7360_1 e_x_7360_2 e_x_7360_3 e_x_7360_4 e_x_7360_5 hB => ?_)
                          obtain ⟨hP, hD⟩ := Bw.goN (ws' := [(oc7 oM x_7259 rM_tape 0 p0 x_7360 x_7361 x_7362 x_7363 x_7364 x_7365 x_7366 x_7260 rM_letters x_7367 iM_hasCourt rM_r rM_fresh rM_told rM_read rM_st rM_undone rM_kept iM_undos iM_images rM_fresher x_7368 iM_scale iM_night rM_heardRow rM_cutRow iM_breaths iM_cutMany iM_allBreaths rM_trial rM_words iM_fewestBreaths iM_orderMany iM_orderSum iM_leastOrder rM_often iM_setMany iM_someOf iM_allOf iM_allWeight iM_enoughWeight iM_worthSum iM_firstRest iM_leastDrawn), (arI rM_tape kM_tape 900 fM_tape), (arI rM_letters kM_letters 8 f_7369), (arI rM_r kM_r 287 fM_r), (arI rM_fresh kM_fresh 287 f_7370), (arI rM_told kM_told 90 fM_told), (arI rM_read kM_read 90 f_7371), (arI rM_st kM_st 90 fM_st), (arI rM_undone kM_undone 1440 fM_undone), (arI rM_kept kM_kept 270 fM_kept), (arI rM_fresher kM_fresher 8 f_7372)]) hB rfl ht hP hD _ hMs hk1 hFc rfl
                          clear hz1 hk1 hvm ht hB hMs
                          have pl_f_7370 := e_x_7360_4.lins
                          have hG := hG.trans (un13_eq e_x_7360_5)
                          clear e_x_7354_1
                          clear e_x_7354_2
                          refine lv_goto (tgt := 106) hx hb dX7_court_130 (by decide) ?_
                          exact ih_n_7304 x_7360 x_7361 x_7362 x_7363 x_7364 x_7365 x_7366 x_7367 x_7368 f_7369 f_7370 f_7371 f_7372 _ _ _ b_x_7361 b_x_7364 b_x_7367 (by assumption) e_x_7360_1 (crtM_step hm_n_7304 (by omega) (by omega) (by omega) (by omega) (fun h9 => by have q0 := kc_0; have q1 := kc_1; have q9 := e_x_7360_3 (by omega); omega)) hG hP hD hS (lv_sub hl [0, 1, 2] rfl)
                  exact key_n_7304 ((crtM x_7285.toInt x_7280.toInt x_7279.toInt) + 1) x_7278 x_7279 x_7280 x_7281 x_7282 x_7283 x_7284 x_7285 x_7286 f_7287 f_7288 f_7289 f_7290 _ _ _ b_x_7279 b_x_7282 b_x_7285 (by assumption) e_x_7278_1 (Nat.lt_add_one _) hG hP hD hS hl
                · skip
                  have hG := hG.trans (if_neg c_7270)
                  have gc_7270 := ti_nle c_7270 kc_90 rfl
                  refine lv_aload_n hx hb dX7_court_67 rfl (lv_at hl 1 rfl) ?_
                  refine va_get (D := (dC, dI)) (ci := 7) (v := .ref rM_read) (C := RX7) (T := TX7) (N := 48) hx hb hts inX7 hown hK hP 0 rfl rfl 18 (by decide) (hts _ wd_158) (fun _ h9 => h9) rfl dX7_court_68 ?_
                  refine lv_iload_n hx hb dX7_court_71 rfl (lv_at hl 0 rfl) ?_
                  refine lv_iconst (v := 0) hx hb dX7_court_72 (by decide) ?_
                  refine va_iast hx hb hK hP hD hS 6 5 rfl rfl (ti_in rfl hi0_n_7269.1 (om_4ad7ab72 gc_7270)) dX7_court_73 (fun H locs hP hD hS => ?_)
                  obtain ⟨f_7373, ef_7373⟩ : ∃ g : Nat → Int32, g = upd f_7268 z_7267.toNatClampNeg (0 : Int32) := ⟨_, rfl⟩
                  rw [← ef_7373] at hP hD
                  have hG := hG.trans (lt_eq ef_7373)
                  obtain ⟨hP, hD⟩ := wl2 (ws' := [(oc7 oM x_7259 rM_tape 0 iM_size iM_at iM_end iM_token iM_whole iM_nameSize 0 iM_place x_7260 rM_letters 0 iM_hasCourt rM_r rM_fresh rM_told rM_read rM_st rM_undone rM_kept iM_undos iM_images rM_fresher iM_fresherSize iM_scale iM_night rM_heardRow rM_cutRow iM_breaths iM_cutMany iM_allBreaths rM_trial rM_words iM_fewestBreaths iM_orderMany iM_orderSum iM_leastOrder rM_often iM_setMany iM_someOf iM_allOf iM_allWeight iM_enoughWeight iM_worthSum iM_firstRest iM_leastDrawn), (arI rM_tape kM_tape 900 fM_tape), (arI rM_letters kM_letters 8 fM_letters), (arI rM_r kM_r 287 fM_r), (arI rM_fresh kM_fresh 287 f_7264), (arI rM_told kM_told 90 fM_told), (arI rM_read kM_read 90 f_7373), (arI rM_st kM_st 90 fM_st), (arI rM_undone kM_undone 1440 fM_undone), (arI rM_kept kM_kept 270 fM_kept), (arI rM_fresher kM_fresher 8 fM_fresher)]) hP hD rfl
                  obtain ⟨x_7374, ex_7374⟩ : ∃ z : Int32, z = z_7267 + Int32.ofInt 1 := ⟨_, rfl⟩
                  have hG := hG.trans (lt_eq ex_7374)
                  have vx_7374 : x_7374.toInt = z_7267.toInt + 1 := ti_add (y := 1) ex_7374 rfl kc_1 (om_4e4fce7e hi0_n_7269.1) (om_1eac56af hi0_n_7269.2)
                  refine lv_iinc (v := x_7374) (lv' := [(2, .int x_7374), (0, .ref oM), (1, .int p0)]) hx hb dX7_court_74 hl (k := 0) rfl ex_7374.symm (by decide) rfl (fun ls hl => ?_)
                  refine lv_goto (tgt := 61) hx hb dX7_court_77 (by decide) ?_
                  exact ih_n_7269 x_7374 f_7373 _ _ _  ⟨(om_83b90de5 hi0_n_7269.1 vx_7374), (om_1b19dd83 gc_7270 vx_7374)⟩ (zer_step hi1_n_7269 ef_7373 rfl rfl (by have q_1 := ti_cl (x := x_7374) vx_7374 (om_9548a8fd hi0_n_7269.1); have q_2 := ti_cl (x := z_7267) rfl hi0_n_7269.1; omega)) (ms_lt hm_n_7269 (om_59039de0 vx_7374) (om_1d81799e gc_7270)) hG hP hD hS (lv_sub hl [0, 1, 2] rfl)
            exact key_n_7269 (((90 - (0 : Int32).toInt).toNat) + 1) 0 fM_read _ _ _  ⟨(om_b1de7dbe kc_0), (om_aaba5e1c kc_0)⟩ zer_zero (Nat.lt_add_one _) hG hP hD hS hl
          · skip
            have hG := hG.trans (if_neg c_7266)
            have gc_7266 := ti_nle c_7266 kc_287 rfl
            refine lv_aload_n hx hb dX7_court_46 rfl (lv_at hl 1 rfl) ?_
            refine va_get (D := (dC, dI)) (ci := 7) (v := .ref rM_fresh) (C := RX7) (T := TX7) (N := 48) hx hb hts inX7 hown hK hP 0 rfl rfl 16 (by decide) (hts _ wd_156) (fun _ h9 => h9) rfl dX7_court_47 ?_
            refine lv_iload_n hx hb dX7_court_50 rfl (lv_at hl 0 rfl) ?_
            refine lv_iconst (v := 0) hx hb dX7_court_51 (by decide) ?_
            refine va_iast hx hb hK hP hD hS 4 3 rfl rfl (ti_in rfl hi0_n_7265.1 (om_6f4a0172 gc_7266)) dX7_court_52 (fun H locs hP hD hS => ?_)
            obtain ⟨f_7375, ef_7375⟩ : ∃ g : Nat → Int32, g = upd f_7264 z_7263.toNatClampNeg (0 : Int32) := ⟨_, rfl⟩
            rw [← ef_7375] at hP hD
            have hG := hG.trans (lt_eq ef_7375)
            obtain ⟨hP, hD⟩ := wl2 (ws' := [(oc7 oM x_7259 rM_tape 0 iM_size iM_at iM_end iM_token iM_whole iM_nameSize 0 iM_place x_7260 rM_letters 0 iM_hasCourt rM_r rM_fresh rM_told rM_read rM_st rM_undone rM_kept iM_undos iM_images rM_fresher iM_fresherSize iM_scale iM_night rM_heardRow rM_cutRow iM_breaths iM_cutMany iM_allBreaths rM_trial rM_words iM_fewestBreaths iM_orderMany iM_orderSum iM_leastOrder rM_often iM_setMany iM_someOf iM_allOf iM_allWeight iM_enoughWeight iM_worthSum iM_firstRest iM_leastDrawn), (arI rM_tape kM_tape 900 fM_tape), (arI rM_letters kM_letters 8 fM_letters), (arI rM_r kM_r 287 fM_r), (arI rM_fresh kM_fresh 287 f_7375), (arI rM_told kM_told 90 fM_told), (arI rM_read kM_read 90 fM_read), (arI rM_st kM_st 90 fM_st), (arI rM_undone kM_undone 1440 fM_undone), (arI rM_kept kM_kept 270 fM_kept), (arI rM_fresher kM_fresher 8 fM_fresher)]) hP hD rfl
            obtain ⟨x_7376, ex_7376⟩ : ∃ z : Int32, z = z_7263 + Int32.ofInt 1 := ⟨_, rfl⟩
            have hG := hG.trans (lt_eq ex_7376)
            have vx_7376 : x_7376.toInt = z_7263.toInt + 1 := ti_add (y := 1) ex_7376 rfl kc_1 (om_4e4fce7e hi0_n_7265.1) (om_a6c1c990 hi0_n_7265.2)
            refine lv_iinc (v := x_7376) (lv' := [(2, .int x_7376), (0, .ref oM), (1, .int p0)]) hx hb dX7_court_53 hl (k := 0) rfl ex_7376.symm (by decide) rfl (fun ls hl => ?_)
            refine lv_goto (tgt := 39) hx hb dX7_court_56 (by decide) ?_
            exact ih_n_7265 x_7376 f_7375 _ _ _  ⟨(om_83b90de5 hi0_n_7265.1 vx_7376), (om_9856eb95 gc_7266 vx_7376)⟩ (zer_step hi1_n_7265 ef_7375 rfl rfl (by have q_1 := ti_cl (x := x_7376) vx_7376 (om_9548a8fd hi0_n_7265.1); have q_2 := ti_cl (x := z_7263) rfl hi0_n_7265.1; omega)) (ms_lt hm_n_7265 (om_bf0cfbeb vx_7376) (om_cff46e25 gc_7266)) hG hP hD hS (lv_sub hl [0, 1, 2] rfl)
      exact key_n_7265 (((287 - (0 : Int32).toInt).toNat) + 1) 0 fM_fresh _ _ _  ⟨(om_b1de7dbe kc_0), (om_b976e3ef kc_0)⟩ zer_zero (Nat.lt_add_one _) hG hP hD hS hl
    · skip
      have hG := hG.trans (if_pos c_7262)
      have gc_7262 := ti_eq c_7262 rfl kc_0
      exfalso; clear hG; omega
  · skip
    have l9x_7261 := kc_0
    refine lv_if_ne (tgt := 22) hx hb dX7_court_13 (by decide) (fun c_7377 => ?_) (fun c_7377 => ?_)
    · skip
      have hG := hG.trans (if_neg c_7377)
      have gc_7377 := ti_ne c_7377 rfl kc_0
      replace gc_7377 : x_7261.toInt + 1 ≤ 0 := by omega
      exact ((om_5185113d dx_7261.1 gc_7377)).elim
    · skip
      have hG := hG.trans (if_pos c_7377)
      have gc_7377 := ti_eq c_7377 rfl kc_0
      refine lv_aload_n hx hb dX7_court_16 rfl (lv_at hl 0 rfl) ?_
      refine lv_iconst (v := 2) hx hb dX7_court_17 (by decide) ?_
      have hMs := ml_of hD [true, false, false, false, false, false, false, false, false, false, false] (wc := [(oc7 oM x_7259 rM_tape iM_taped iM_size iM_at iM_end iM_token iM_whole iM_nameSize iM_fault iM_place x_7260 rM_letters iM_failed iM_hasCourt rM_r rM_fresh rM_told rM_read rM_st rM_undone rM_kept iM_undos iM_images rM_fresher iM_fresherSize iM_scale iM_night rM_heardRow rM_cutRow iM_breaths iM_cutMany iM_allBreaths rM_trial rM_words iM_fewestBreaths iM_orderMany iM_orderSum iM_leastOrder rM_often iM_setMany iM_someOf iM_allOf iM_allWeight iM_enoughWeight iM_worthSum iM_firstRest iM_leastDrawn)]) rfl
      have hFc := va_freeM hD hS hA _ hMs
      refine va_calli (va_runV (As := [.int 2]) (rest := []) ⟨hx, hb, hml, hown, hts⟩ (tX7_no l dC dI _ oM x_7259 rM_tape iM_taped iM_size iM_at iM_end iM_token iM_whole iM_nameSize iM_fault iM_place x_7260 rM_letters iM_failed iM_hasCourt rM_r rM_fresh rM_told rM_read rM_st rM_undone rM_kept iM_undos iM_images rM_fresher iM_fresherSize iM_scale iM_night rM_heardRow rM_cutRow iM_breaths iM_cutMany iM_allBreaths rM_trial rM_words iM_fewestBreaths iM_orderMany iM_orderSum iM_leastOrder rM_often iM_setMany iM_someOf iM_allOf iM_allWeight iM_enoughWeight iM_worthSum iM_firstRest iM_leastDrawn 2 b_iM_taped b_iM_size b_iM_end b_iM_failed b_iM_hasCourt b_iM_undos b_iM_images b_iM_scale b_iM_breaths b_iM_cutMany) (cwV 1 hts (wd_V wd_396 wd_397 wd_398 wd_5 (wd_c wd_399)) rfl rfl rfl dv_yX7_no_1 ⟨Nat.le_of_ble_eq_true rfl, Nat.le_of_ble_eq_true rfl⟩) ⟨Pw.fb, recvX7 hK hP (q0 := 0) rfl, fun U hU hW => Pw.to (hP.ms _ hMs) (hD.ms _ hMs) (hK.ms [false, false, false, false, false, false, false, false, false, false] rfl) hE hS hFc hU hW⟩ rfl rfl hl.1 rfl (lv_room (Nat.le_of_ble_eq_true rfl)) dX7_court_18 ⟨Nat.le_of_ble_eq_true rfl, Nat.le_of_ble_eq_true rfl⟩) hS (fun q _ h => hFc q h) hFc (fun r u t H locs ht hvm hw hB hz1 hk1 hS => ?_)
      have hru9 := hw.2
      have hw := hw.1
      refine ex_1_1 hB (fun x_7378 e_x_7378_0 hB => ?_)
      obtain ⟨hP, hD⟩ := Bw.goN (ws' := [(oc7 oM x_7259 rM_tape iM_taped iM_size iM_at iM_end iM_token iM_whole iM_nameSize iM_fault iM_place x_7378 rM_letters iM_failed iM_hasCourt rM_r rM_fresh rM_told rM_read rM_st rM_undone rM_kept iM_undos iM_images rM_fresher iM_fresherSize iM_scale iM_night rM_heardRow rM_cutRow iM_breaths iM_cutMany iM_allBreaths rM_trial rM_words iM_fewestBreaths iM_orderMany iM_orderSum iM_leastOrder rM_often iM_setMany iM_someOf iM_allOf iM_allWeight iM_enoughWeight iM_worthSum iM_firstRest iM_leastDrawn), (arI rM_tape kM_tape 900 fM_tape), (arI rM_letters kM_letters 8 fM_letters), (arI rM_r kM_r 287 fM_r), (arI rM_fresh kM_fresh 287 fM_fresh), (arI rM_told kM_told 90 fM_told), (arI rM_read kM_read 90 fM_read), (arI rM_st kM_st 90 fM_st), (arI rM_undone kM_undone 1440 fM_undone), (arI rM_kept kM_kept 270 fM_kept), (arI rM_fresher kM_fresher 8 fM_fresher)]) hB rfl ht hP hD _ hMs hk1 hFc rfl
      clear hz1 hk1 hvm ht hB hMs
      rw [← hru9] at e_x_7378_0
      obtain ⟨x_7379, rfl⟩ : ∃ z, z = r := ⟨_, rfl⟩
      have hG := hG.trans (un2_eq e_x_7378_0)
      exact wq_i hx hb hr (cI x_7379) ⟨⟨trivial, trivial⟩, (cI_of x_7379)⟩ (fun t ht hW => ⟨x_7259, iM_taped, iM_size, iM_at, iM_end, iM_token, iM_whole, iM_nameSize, iM_fault, iM_place, x_7378, iM_failed, iM_hasCourt, iM_undos, iM_images, iM_fresherSize, iM_scale, fM_letters, fM_r, fM_fresh, fM_told, fM_read, fM_st, fM_fresher, ⟨b_iM_taped.1, b_iM_taped.2⟩, ⟨b_iM_size.1, b_iM_size.2⟩, ⟨b_iM_end.1, b_iM_end.2⟩, ⟨b_iM_nameSize.1, b_iM_nameSize.2⟩, ⟨b_iM_failed.1, b_iM_failed.2⟩, ⟨b_iM_hasCourt.1, b_iM_hasCourt.2⟩, ⟨b_iM_undos.1, b_iM_undos.2⟩, ⟨b_iM_images.1, b_iM_images.2⟩, ⟨b_iM_scale.1, b_iM_scale.2⟩, (by have q0 := kc_0; have q1 := kc_1; first | assumption | omega), (by have q0 := kc_0; have q1 := kc_1; first | assumption | omega), (by have q0 := kc_0; have q1 := kc_1; first | assumption | omega), (by have q0 := kc_0; have q1 := kc_1; first | assumption | omega), (by have q0 := kc_0; have q1 := kc_1; first | assumption | omega), (by have q0 := kc_0; have q1 := kc_1; first | assumption | omega), (by have q0 := kc_0; have q1 := kc_1; first | assumption | omega), r_T, (by have q0 := kc_0; have q1 := kc_1; first | assumption | omega), (cI_tup hG), Bw.to hP hD hK ht hW⟩) hS dX7_court_21 hlocks
