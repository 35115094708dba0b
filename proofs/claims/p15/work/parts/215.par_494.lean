set_option maxHeartbeats 4000000 in
set_option maxRecDepth 100000 in
theorem tX7_layScale (l : Launch) (dC : Nat → ClassId) (dI : Nat → Nat → Nat) (sz : Nat) (oM : Nat) (iM_thrown : Int32) (rM_tape : Nat) (iM_taped : Int32) (iM_size : Int32) (iM_at : Int32) (iM_end : Int32) (iM_token : Int32) (iM_whole : Int32) (iM_nameSize : Int32) (iM_fault : Int32) (iM_place : Int32) (iM_trouble : Int32) (rM_letters : Nat) (iM_failed : Int32) (iM_hasCourt : Int32) (rM_r : Nat) (fM_r : Nat → Int32) (kM_r : ClassId) (rM_fresh : Nat) (rM_told : Nat) (rM_read : Nat) (rM_st : Nat) (rM_undone : Nat) (rM_kept : Nat) (iM_undos : Int32) (iM_images : Int32) (rM_fresher : Nat) (iM_fresherSize : Int32) (iM_scale : Int32) (iM_night : Int32) (rM_heardRow : Nat) (rM_cutRow : Nat) (iM_breaths : Int32) (iM_cutMany : Int32) (iM_allBreaths : Int32) (rM_trial : Nat) (rM_words : Nat) (iM_fewestBreaths : Int32) (iM_orderMany : Int32) (iM_orderSum : Int32) (iM_leastOrder : Int32) (rM_often : Nat) (iM_setMany : Int32) (iM_someOf : Int32) (iM_allOf : Int32) (iM_allWeight : Int64) (iM_enoughWeight : Int64) (iM_worthSum : Int64) (iM_firstRest : Int32) (iM_leastDrawn : Int32) (b_iM_taped : 0 ≤ iM_taped.toInt ∧ iM_taped.toInt ≤ 900) (b_iM_size : 0 ≤ iM_size.toInt ∧ iM_size.toInt ≤ 900) (b_iM_end : 0 ≤ iM_end.toInt ∧ iM_end.toInt ≤ 900) (b_iM_failed : 0 ≤ iM_failed.toInt ∧ iM_failed.toInt ≤ 1) (b_iM_hasCourt : 0 ≤ iM_hasCourt.toInt ∧ iM_hasCourt.toInt ≤ 1) (b_iM_undos : 0 ≤ iM_undos.toInt ∧ iM_undos.toInt ≤ 16) (b_iM_images : 0 ≤ iM_images.toInt ∧ iM_images.toInt ≤ 3) (b_iM_scale : 1 ≤ iM_scale.toInt ∧ iM_scale.toInt ≤ 1296) (b_iM_breaths : 0 ≤ iM_breaths.toInt ∧ iM_breaths.toInt ≤ 399) (b_iM_cutMany : 0 ≤ iM_cutMany.toInt ∧ iM_cutMany.toInt ≤ 399) (r_R : ROk fM_r) (r_C : iM_hasCourt.toInt ≤ 0 ∨ (1 ≤ (fM_r 1).toInt ∧ 0 ≤ (fM_r 6).toInt ∧ (fM_r 6).toInt < (fM_r 1).toInt))  : Met l yX7_layScale (Cond.code yX7_layScale cX7_layScale 2 none :: wG) ({ frames := 1, cells := 0, slots := 0, locals := 23 }) (va_Pc [.ref oM] (Pw dC dI sz [(oc7 oM iM_thrown rM_tape iM_taped iM_size iM_at iM_end iM_token iM_whole iM_nameSize iM_fault iM_place iM_trouble rM_letters iM_failed iM_hasCourt rM_r rM_fresh rM_told rM_read rM_st rM_undone rM_kept iM_undos iM_images rM_fresher iM_fresherSize iM_scale iM_night rM_heardRow rM_cutRow iM_breaths iM_cutMany iM_allBreaths rM_trial rM_words iM_fewestBreaths iM_orderMany iM_orderSum iM_leastOrder rM_often iM_setMany iM_someOf iM_allOf iM_allWeight iM_enoughWeight iM_worthSum iM_firstRest iM_leastDrawn), (arI rM_r kM_r 287 fM_r)] [(kM_r, .int)])) (va_Qv (fun (_ : Nat) => True) (fun (_ : Nat) (t : State) => ∃ (niM_scale : Int32), (1 ≤ niM_scale.toInt ∧ niM_scale.toInt ≤ 1296) ∧ (PX7_layScale fM_r = niM_scale) ∧ Bw dC dI (va_A [(oc7 oM iM_thrown rM_tape iM_taped iM_size iM_at iM_end iM_token iM_whole iM_nameSize iM_fault iM_place iM_trouble rM_letters iM_failed iM_hasCourt rM_r rM_fresh rM_told rM_read rM_st rM_undone rM_kept iM_undos iM_images rM_fresher iM_fresherSize iM_scale iM_night rM_heardRow rM_cutRow iM_breaths iM_cutMany iM_allBreaths rM_trial rM_words iM_fewestBreaths iM_orderMany iM_orderSum iM_leastOrder rM_often iM_setMany iM_someOf iM_allOf iM_allWeight iM_enoughWeight iM_worthSum iM_firstRest iM_leastDrawn), (arI rM_r kM_r 287 fM_r)] sz) [(oc7 oM iM_thrown rM_tape iM_taped iM_size iM_at iM_end iM_token iM_whole iM_nameSize iM_fault iM_place iM_trouble rM_letters iM_failed iM_hasCourt rM_r rM_fresh rM_told rM_read rM_st rM_undone rM_kept iM_undos iM_images rM_fresher iM_fresherSize niM_scale iM_night rM_heardRow rM_cutRow iM_breaths iM_cutMany iM_allBreaths rM_trial rM_words iM_fewestBreaths iM_orderMany iM_orderSum iM_leastOrder rM_often iM_setMany iM_someOf iM_allOf iM_allWeight iM_enoughWeight iM_worthSum iM_firstRest iM_leastDrawn), (arI rM_r kM_r 287 fM_r)] [(kM_r, .int)] t) (va_A [(oc7 oM iM_thrown rM_tape iM_taped iM_size iM_at iM_end iM_token iM_whole iM_nameSize iM_fault iM_place iM_trouble rM_letters iM_failed iM_hasCourt rM_r rM_fresh rM_told rM_read rM_st rM_undone rM_kept iM_undos iM_images rM_fresher iM_fresherSize iM_scale iM_night rM_heardRow rM_cutRow iM_breaths iM_cutMany iM_allBreaths rM_trial rM_words iM_fewestBreaths iM_orderMany iM_orderSum iM_leastOrder rM_often iM_setMany iM_someOf iM_allOf iM_allWeight iM_enoughWeight iM_worthSum iM_firstRest iM_leastDrawn), (arI rM_r kM_r 287 fM_r)] sz)) 0 0 (va_A [(oc7 oM iM_thrown rM_tape iM_taped iM_size iM_at iM_end iM_token iM_whole iM_nameSize iM_fault iM_place iM_trouble rM_letters iM_failed iM_hasCourt rM_r rM_fresh rM_told rM_read rM_st rM_undone rM_kept iM_undos iM_images rM_fresher iM_fresherSize iM_scale iM_night rM_heardRow rM_cutRow iM_breaths iM_cutMany iM_allBreaths rM_trial rM_words iM_fewestBreaths iM_orderMany iM_orderSum iM_leastOrder rM_often iM_setMany iM_someOf iM_allOf iM_allWeight iM_enoughWeight iM_worthSum iM_firstRest iM_leastDrawn), (arI rM_r kM_r 287 fM_r)] sz) := by
  refine Met.ofW (cc := cX7_layScale) (maxL := 2) (ret := none) pnX7 rfl ?_
  intro p e s m args below meth c s₁ B hml hv
  obtain ⟨rfl, hsz, hP, hK, hD0, hE⟩ := hv
  have hx := B.exec
  have hb := B.bytes
  have hr := B.returns
  have hts : ∀ w ∈ wG, w.before ([.ref oM] : List Value).toArray s = true := fun w h => atoms_spec (ws := Cond.code yX7_layScale cX7_layScale 2 none :: wG) B.pre w (List.mem_cons_of_mem _ h)
  have hown : s.vm.findClass RX7 = some m.cls := own_of B.named rfl
  have hlocks := B.notSynchronized
  subst hsz
  have hD := hD0.self (sz := s.heap.size)
  generalize hAe : va_A [(oc7 oM iM_thrown rM_tape iM_taped iM_size iM_at iM_end iM_token iM_whole iM_nameSize iM_fault iM_place iM_trouble rM_letters iM_failed iM_hasCourt rM_r rM_fresh rM_told rM_read rM_st rM_undone rM_kept iM_undos iM_images rM_fresher iM_fresherSize iM_scale iM_night rM_heardRow rM_cutRow iM_breaths iM_cutMany iM_allBreaths rM_trial rM_words iM_fewestBreaths iM_orderMany iM_orderSum iM_leastOrder rM_often iM_setMany iM_someOf iM_allOf iM_allWeight iM_enoughWeight iM_worthSum iM_firstRest iM_leastDrawn), (arI rM_r kM_r 287 fM_r)] s.heap.size = A at hD hE ⊢
  have hA : ∀ q : Nat, s.heap.size ≤ q → A q := fun q h => by rw [← hAe]; exact Or.inr h
  have hS : va_S A s.heap s.heap [] := va_S.rf
  have hl := lv_entry ([.ref oM]) (n := 2) (Nat.le_of_ble_eq_true rfl)
  rw [lg_entry_eq]
  generalize (lg_sl ([.ref oM]) ++ List.replicate (2 - (lg_sl ([.ref oM])).length) Slot.unset).toArray = ls at hl ⊢
  have hl : lv_has ls 2 [(0, .ref oM)] := hl
  have hG := PX7_layScale_eq fM_r
  have s_slips := r_R.slips
  have s_nodes := r_R.nodes
  have s_uns := r_R.uns
  refine lv_aload_n hx hb dX7_layScale_0 rfl (lv_at hl 0 rfl) ?_
  refine lv_iconst (v := 1) hx hb dX7_layScale_1 (by decide) ?_
  refine va_put (D := (dC, dI)) (ci := 7) (v := .int 1) (ty := .int) (C := RX7) (T := TX7) (N := 48) hx hb hts inX7 tyX7 tyX7_ok nmX7 hown hK hP hD hS 0 rfl rfl 26 (by decide) (hts _ wd_163) (fun _ h9 => h9) rfl (by decide +kernel) rfl rfl (Nat.le_of_ble_eq_true rfl) dX7_layScale_2 (fun H locs hP hD hS => ?_)
  obtain ⟨hP, hD⟩ := wl2 (ws' := [(oc7 oM iM_thrown rM_tape iM_taped iM_size iM_at iM_end iM_token iM_whole iM_nameSize iM_fault iM_place iM_trouble rM_letters iM_failed iM_hasCourt rM_r rM_fresh rM_told rM_read rM_st rM_undone rM_kept iM_undos iM_images rM_fresher iM_fresherSize 1 iM_night rM_heardRow rM_cutRow iM_breaths iM_cutMany iM_allBreaths rM_trial rM_words iM_fewestBreaths iM_orderMany iM_orderSum iM_leastOrder rM_often iM_setMany iM_someOf iM_allOf iM_allWeight iM_enoughWeight iM_worthSum iM_firstRest iM_leastDrawn), (arI rM_r kM_r 287 fM_r)]) hP hD rfl
  refine lv_iconst (v := 0) hx hb dX7_layScale_5 (by decide) ?_
  refine lv_istore_n (lv' := [(1, .int 0), (0, .ref oM)]) hx hb dX7_layScale_6 rfl hl (by decide) rfl (fun ls hl => ?_)
  have hl := lv_sub hl (l' := [(1, .int 0), (0, .ref oM)]) [0, 1] rfl
  have key_n_6889 : ∀ (n_6889 : Nat) (z_6887 : Int32) (z_6888 : Int32) (H : Heap) (locs : List Loc) (ls : Array Slot), (1 ≤ z_6888.toInt ∧ z_6888.toInt ≤ 1296) → (0 ≤ z_6887.toInt ∧ z_6887.toInt ≤ (fM_r 1).toInt) → (ScI (cntP (fun k => (fM_r (9 + k)).toInt = 3) (z_6887.toNatClampNeg)) z_6888.toInt) → ((fM_r 1).toInt - z_6887.toInt).toNat < n_6889 → (PX7_layScale fM_r = HX7_layScale_0 fM_r n_6889 z_6887 z_6888) → va_P (dC, dI) vwCl [(oc7 oM iM_thrown rM_tape iM_taped iM_size iM_at iM_end iM_token iM_whole iM_nameSize iM_fault iM_place iM_trouble rM_letters iM_failed iM_hasCourt rM_r rM_fresh rM_told rM_read rM_st rM_undone rM_kept iM_undos iM_images rM_fresher iM_fresherSize z_6888 iM_night rM_heardRow rM_cutRow iM_breaths iM_cutMany iM_allBreaths rM_trial rM_words iM_fewestBreaths iM_orderMany iM_orderSum iM_leastOrder rM_often iM_setMany iM_someOf iM_allOf iM_allWeight iM_enoughWeight iM_worthSum iM_firstRest iM_leastDrawn), (arI rM_r kM_r 287 fM_r)] H → va_D A [(oc7 oM iM_thrown rM_tape iM_taped iM_size iM_at iM_end iM_token iM_whole iM_nameSize iM_fault iM_place iM_trouble rM_letters iM_failed iM_hasCourt rM_r rM_fresh rM_told rM_read rM_st rM_undone rM_kept iM_undos iM_images rM_fresher iM_fresherSize z_6888 iM_night rM_heardRow rM_cutRow iM_breaths iM_cutMany iM_allBreaths rM_trial rM_words iM_fewestBreaths iM_orderMany iM_orderSum iM_leastOrder rM_often iM_setMany iM_someOf iM_allOf iM_allWeight iM_enoughWeight iM_worthSum iM_firstRest iM_leastDrawn), (arI rM_r kM_r 287 fM_r)] → va_S A s.heap H locs → lv_has ls 2 [(1, .int z_6887), (0, .ref oM)] → W p l e (headSpec (Cond.code yX7_layScale cX7_layScale 2 none :: wG) ({ frames := 1, cells := 0, slots := 0, locals := 23 })).room s m ([.ref oM] : List Value).toArray below meth c H locs 0 0 (MQ below (va_Qv (fun (_ : Nat) => True) (fun (_ : Nat) (t : State) => ∃ (niM_scale : Int32), (1 ≤ niM_scale.toInt ∧ niM_scale.toInt ≤ 1296) ∧ (PX7_layScale fM_r = niM_scale) ∧ Bw dC dI A [(oc7 oM iM_thrown rM_tape iM_taped iM_size iM_at iM_end iM_token iM_whole iM_nameSize iM_fault iM_place iM_trouble rM_letters iM_failed iM_hasCourt rM_r rM_fresh rM_told rM_read rM_st rM_undone rM_kept iM_undos iM_images rM_fresher iM_fresherSize niM_scale iM_night rM_heardRow rM_cutRow iM_breaths iM_cutMany iM_allBreaths rM_trial rM_words iM_fewestBreaths iM_orderMany iM_orderSum iM_leastOrder rM_often iM_setMany iM_someOf iM_allOf iM_allWeight iM_enoughWeight iM_worthSum iM_firstRest iM_leastDrawn), (arI rM_r kM_r 287 fM_r)] [(kM_r, .int)] t) A) ([.ref oM] : List Value).toArray s 0 0 A) (F0 m 7 ls []) := by
    intro n_6889
    induction n_6889 with
    | zero => intro z_6887 z_6888 H locs ls b_z_6888 hi0_n_6889 hi1_n_6889 hm; exact absurd hm (Nat.not_lt_zero _)
    | succ n_6889 ih_n_6889 =>
      intro z_6887 z_6888 H locs ls b_z_6888 hi0_n_6889 hi1_n_6889 hm_n_6889 hG hP hD hS hl
      have hG := hG.trans (HX7_layScale_0_eq _ _ _ _)
      refine lv_iload_n hx hb dX7_layScale_7 rfl (lv_at hl 0 rfl) ?_
      refine lv_aload_n hx hb dX7_layScale_8 rfl (lv_at hl 1 rfl) ?_
      refine va_get (D := (dC, dI)) (ci := 7) (v := .ref rM_r) (C := RX7) (T := TX7) (N := 48) hx hb hts inX7 hown hK hP 0 rfl rfl 15 (by decide) (hts _ wd_155) (fun _ h9 => h9) rfl dX7_layScale_9 ?_
      refine lv_iconst (v := 1) hx hb dX7_layScale_12 (by decide) ?_
      refine va_iald hx hb hK hP 1 0 rfl rfl (by unfold vp_in; decide) dX7_layScale_13 ?_
      refine lv_topi (fun x_6890 ex_6890 => ?_)
      have hG := hG.trans (lt_eq ex_6890)
      have cx_6890 : (fM_r 1).toInt = x_6890.toInt := congrArg Int32.toInt (show fM_r 1 = x_6890 from ex_6890.symm)
      have sx_6890 := r_R.nodes
      refine lv_icmp_ge (tgt := 50) hx hb dX7_layScale_14 (by decide) (fun c_6891 => ?_) (fun c_6891 => ?_)
      · skip
        have hG := hG.trans (if_pos c_6891)
        have gc_6891 := ti_le c_6891 rfl rfl
        exact wq_v hx hb hr 0 trivial (fun t ht hW => ⟨z_6888, b_z_6888, hG, Bw.to hP hD hK ht hW⟩) hS dX7_layScale_50 hlocks
      · skip
        have hG := hG.trans (if_neg c_6891)
        have gc_6891 := ti_nle c_6891 rfl rfl
        refine lv_aload_n hx hb dX7_layScale_17 rfl (lv_at hl 1 rfl) ?_
        refine va_get (D := (dC, dI)) (ci := 7) (v := .ref rM_r) (C := RX7) (T := TX7) (N := 48) hx hb hts inX7 hown hK hP 0 rfl rfl 15 (by decide) (hts _ wd_155) (fun _ h9 => h9) rfl dX7_layScale_18 ?_
        refine lv_bipush (v := 9) hx hb dX7_layScale_21 (by decide) ?_
        refine lv_iload_n hx hb dX7_layScale_23 rfl (lv_at hl 0 rfl) ?_
        refine lv_iadd hx hb dX7_layScale_24 ?_
        refine lv_topi (fun x_6892 ex_6892 => ?_)
        have hG := hG.trans (lt_eq ex_6892)
        have vx_6892 : x_6892.toInt = z_6887.toInt + 9 := om_296ce4dd (ti_add ex_6892 kc_9 rfl (om_090bbef4 hi0_n_6889.1) (om_40a1f881 s_nodes.2 hi0_n_6889.2))
        refine va_iald hx hb hK hP 1 0 rfl rfl (ti_in vx_6892 (om_edbe2e4c hi0_n_6889.1) (om_5e511aa9 s_nodes.2 hi0_n_6889.2)) dX7_layScale_25 ?_
        refine lv_topi (fun x_6893 ex_6893 => ?_)
        have hG := hG.trans (lt_eq ex_6893)
        have kx_6893 : (fM_r x_6892.toNatClampNeg).toInt = x_6893.toInt := by rw [ex_6893]
        have cx_6893 : (fM_r (9 + z_6887.toNatClampNeg)).toInt = x_6893.toInt := by rw [show 9 + z_6887.toNatClampNeg = x_6892.toNatClampNeg from (om_32f1c3e7 (ti_cl (x := z_6887) rfl hi0_n_6889.1) (ti_cl (x := x_6892) vx_6892 (om_edbe2e4c hi0_n_6889.1)))]; exact kx_6893
        have sx_6893 := r_R.kind x_6892.toNatClampNeg (om_462cc4af (ti_cl (x := x_6892) vx_6892 (om_edbe2e4c hi0_n_6889.1)) hi0_n_6889.1) (om_19da1274 (ti_cl (x := x_6892) vx_6892 (om_edbe2e4c hi0_n_6889.1)) s_nodes.2 cx_6890 gc_6891)
        have ct9 := cnt_at (P := fun k => (fM_r (9 + k)).toInt = 3) z_6887.toNatClampNeg
        have cb9 := r_R.cc (z_6887.toNatClampNeg + 1) (by have q1 := ti_cl (x := z_6887) rfl hi0_n_6889.1; omega)
        refine lv_iconst (v := 3) hx hb dX7_layScale_26 (by decide) ?_
        refine lv_icmp_ne (tgt := 44) hx hb dX7_layScale_27 (by decide) (fun c_6894 => ?_) (fun c_6894 => ?_)
        · skip
          have hG := hG.trans (if_neg c_6894)
          have gc_6894 := ti_ne c_6894 rfl kc_3
          replace gc_6894 : x_6893.toInt + (-2) ≤ 0 := om_3c8c485b gc_6894 kx_6893 sx_6893.2
          obtain ⟨x_6895, ex_6895⟩ : ∃ z : Int32, z = z_6887 + Int32.ofInt 1 := ⟨_, rfl⟩
          have hG := hG.trans (lt_eq ex_6895)
          have vx_6895 : x_6895.toInt = z_6887.toInt + 1 := ti_add (y := 1) ex_6895 rfl kc_1 (om_4e4fce7e hi0_n_6889.1) (om_656ddbff s_nodes.2 hi0_n_6889.2)
          refine lv_iinc (v := x_6895) (lv' := [(1, .int x_6895), (0, .ref oM)]) hx hb dX7_layScale_44 hl (k := 0) rfl ex_6895.symm (by decide) rfl (fun ls hl => ?_)
          refine lv_goto (tgt := 7) hx hb dX7_layScale_47 (by decide) ?_
          exact ih_n_6889 x_6895 z_6888 _ _ _ b_z_6888 ⟨(om_83b90de5 hi0_n_6889.1 vx_6895), (om_1ad1f819 cx_6890 gc_6891 vx_6895)⟩ (by rw [show x_6895.toNatClampNeg = z_6887.toNatClampNeg + 1 from (by have q_1 := ti_cl (x := x_6895) vx_6895 (om_9548a8fd hi0_n_6889.1); have q_2 := ti_cl (x := z_6887) rfl hi0_n_6889.1; omega)]; rw [ct9.2 (by show ¬ (fM_r (9 + z_6887.toNatClampNeg)).toInt = 3; omega)]; exact hi1_n_6889) (ms_lt hm_n_6889 (om_dd4ae0bc vx_6895) (om_6d498008 cx_6890 gc_6891)) hG hP hD hS (lv_sub hl [0, 1] rfl)
        · skip
          have hG := hG.trans (if_pos c_6894)
          have gc_6894 := ti_eq c_6894 rfl kc_3
          refine lv_aload_n hx hb dX7_layScale_30 rfl (lv_at hl 1 rfl) ?_
          refine lv_dup hx hb dX7_layScale_31 rfl ?_
          refine va_get (D := (dC, dI)) (ci := 7) (v := .int z_6888) (C := RX7) (T := TX7) (N := 48) hx hb hts inX7 hown hK hP 0 rfl rfl 26 (by decide) (hts _ wd_163) (fun _ h9 => h9) rfl dX7_layScale_32 ?_
          refine lv_aload_n hx hb dX7_layScale_35 rfl (lv_at hl 1 rfl) ?_
          refine lv_iload_n hx hb dX7_layScale_36 rfl (lv_at hl 0 rfl) ?_
          have hFc := va_freeI hD hS hA
          refine va_calli (va_runV (As := [.int z_6887]) (rest := [.int z_6888, .ref oM]) ⟨hx, hb, hml, hown, hts⟩ (tX7_weightsOf l dC dI _ oM iM_thrown rM_tape iM_taped iM_size iM_at iM_end iM_token iM_whole iM_nameSize iM_fault iM_place iM_trouble rM_letters iM_failed iM_hasCourt rM_r fM_r kM_r rM_fresh rM_told rM_read rM_st rM_undone rM_kept iM_undos iM_images rM_fresher iM_fresherSize z_6888 iM_night rM_heardRow rM_cutRow iM_breaths iM_cutMany iM_allBreaths rM_trial rM_words iM_fewestBreaths iM_orderMany iM_orderSum iM_leastOrder rM_often iM_setMany iM_someOf iM_allOf iM_allWeight iM_enoughWeight iM_worthSum iM_firstRest iM_leastDrawn z_6887 b_iM_taped b_iM_size b_iM_end b_iM_failed b_iM_hasCourt b_iM_undos b_iM_images b_z_6888 b_iM_breaths b_iM_cutMany (by assumption) (by assumption) ⟨hi0_n_6889.1, (om_644b432c cx_6890 gc_6891)⟩ (om_5edc6190 cx_6893 gc_6894)) (cwV 1 hts (wd_V wd_506 wd_507 wd_508 wd_5 (wd_c wd_509)) rfl rfl rfl dv_yX7_weightsOf_1 ⟨Nat.le_of_ble_eq_true rfl, Nat.le_of_ble_eq_true rfl⟩) ⟨Pw.fb, recvX7 hK hP (q0 := 0) rfl, fun U hU hW => Pw.to hP hD hK hE hS hFc hU hW⟩ rfl rfl hl.1 rfl (lv_room (Nat.le_of_ble_eq_true rfl)) dX7_layScale_37 ⟨Nat.le_of_ble_eq_true rfl, Nat.le_of_ble_eq_true rfl⟩) hS (fun q _ h => hFc q h) hFc (fun r u t H locs ht hvm hw hB hz1 hk1 hS => ?_)
          have hru9 := hw.2
          have hw := hw.1
          obtain ⟨hP, hD⟩ := Bw.goA (ws' := [(oc7 oM iM_thrown rM_tape iM_taped iM_size iM_at iM_end iM_token iM_whole iM_nameSize iM_fault iM_place iM_trouble rM_letters iM_failed iM_hasCourt rM_r rM_fresh rM_told rM_read rM_st rM_undone rM_kept iM_undos iM_images rM_fresher iM_fresherSize z_6888 iM_night rM_heardRow rM_cutRow iM_breaths iM_cutMany iM_allBreaths rM_trial rM_words iM_fewestBreaths iM_orderMany iM_orderSum iM_leastOrder rM_often iM_setMany iM_someOf iM_allOf iM_allWeight iM_enoughWeight iM_worthSum iM_firstRest iM_leastDrawn), (arI rM_r kM_r 287 fM_r)]) hB rfl ht hFc rfl
          clear hz1 hk1 hvm ht hB
          obtain ⟨x_6896, rfl⟩ : ∃ z, z = r := ⟨_, rfl⟩
          have hG := hG.trans (lt_eq hru9.symm)
          have ux_6896 := hw.2
          refine lv_imul hx hb dX7_layScale_40 ?_
          refine lv_topi (fun x_6897 ex_6897 => ?_)
          have hG := hG.trans (lt_eq ex_6897)
          have ce9 := ct9.1 (by show (fM_r (9 + z_6887.toNatClampNeg)).toInt = 3; omega)
          have sm9 := sc_mul hi1_n_6889 (by omega) ex_6897 (by omega)
          have sn9 := sm9.2
          refine va_put (D := (dC, dI)) (ci := 7) (v := .int x_6897) (ty := .int) (C := RX7) (T := TX7) (N := 48) hx hb hts inX7 tyX7 tyX7_ok nmX7 hown hK hP hD hS 0 rfl rfl 26 (by decide) (hts _ wd_163) (fun _ h9 => h9) rfl (by decide +kernel) rfl rfl (Nat.le_of_ble_eq_true rfl) dX7_layScale_41 (fun H locs hP hD hS => ?_)
          obtain ⟨hP, hD⟩ := wl2 (ws' := [(oc7 oM iM_thrown rM_tape iM_taped iM_size iM_at iM_end iM_token iM_whole iM_nameSize iM_fault iM_place iM_trouble rM_letters iM_failed iM_hasCourt rM_r rM_fresh rM_told rM_read rM_st rM_undone rM_kept iM_undos iM_images rM_fresher iM_fresherSize x_6897 iM_night rM_heardRow rM_cutRow iM_breaths iM_cutMany iM_allBreaths rM_trial rM_words iM_fewestBreaths iM_orderMany iM_orderSum iM_leastOrder rM_often iM_setMany iM_someOf iM_allOf iM_allWeight iM_enoughWeight iM_worthSum iM_firstRest iM_leastDrawn), (arI rM_r kM_r 287 fM_r)]) hP hD rfl
          obtain ⟨x_6898, ex_6898⟩ : ∃ z : Int32, z = z_6887 + Int32.ofInt 1 := ⟨_, rfl⟩
          have hG := hG.trans (lt_eq ex_6898)
          have vx_6898 : x_6898.toInt = z_6887.toInt + 1 := ti_add (y := 1) ex_6898 rfl kc_1 (om_4e4fce7e hi0_n_6889.1) (om_656ddbff s_nodes.2 hi0_n_6889.2)
          refine lv_iinc (v := x_6898) (lv' := [(1, .int x_6898), (0, .ref oM)]) hx hb dX7_layScale_44 hl (k := 0) rfl ex_6898.symm (by decide) rfl (fun ls hl => ?_)
          refine lv_goto (tgt := 7) hx hb dX7_layScale_47 (by decide) ?_
          exact ih_n_6889 x_6898 x_6897 _ _ _ ⟨by omega, by omega⟩ ⟨(om_83b90de5 hi0_n_6889.1 vx_6898), (om_1ad1f819 cx_6890 gc_6891 vx_6898)⟩ (by rw [show x_6898.toNatClampNeg = z_6887.toNatClampNeg + 1 from (by have q_1 := ti_cl (x := x_6898) vx_6898 (om_9548a8fd hi0_n_6889.1); have q_2 := ti_cl (x := z_6887) rfl hi0_n_6889.1; omega)]; rw [ce9]; exact sm9.1) (ms_lt hm_n_6889 (om_dd4ae0bc vx_6898) (om_6d498008 cx_6890 gc_6891)) hG hP hD hS (lv_sub hl [0, 1] rfl)
  exact key_n_6889 ((((fM_r 1).toInt - (0 : Int32).toInt).toNat) + 1) 0 1 _ _ _ (by decide) ⟨(om_b1de7dbe kc_0), (om_2dfe280d s_nodes.1 kc_0)⟩ (by first | assumption | omega | decide | exact Or.inl ⟨rfl, kc_1⟩) (Nat.lt_add_one _) hG hP hD hS hl
set_option maxHeartbeats 4000000 in
set_option maxRecDepth 100000 in
theorem tX7_feed (l : Launch) (dC : Nat → ClassId) (dI : Nat → Nat → Nat) (sz : Nat) (oM : Nat) (iM_thrown : Int32) (rM_tape : Nat) (fM_tape : Nat → Int32) (kM_tape : ClassId) (iM_taped : Int32) (iM_size : Int32) (iM_at : Int32) (iM_end : Int32) (iM_token : Int32) (iM_whole : Int32) (iM_nameSize : Int32) (iM_fault : Int32) (iM_place : Int32) (iM_trouble : Int32) (rM_letters : Nat) (iM_failed : Int32) (iM_hasCourt : Int32) (rM_r : Nat) (rM_fresh : Nat) (rM_told : Nat) (rM_read : Nat) (rM_st : Nat) (rM_undone : Nat) (rM_kept : Nat) (iM_undos : Int32) (iM_images : Int32) (rM_fresher : Nat) (iM_fresherSize : Int32) (iM_scale : Int32) (iM_night : Int32) (rM_heardRow : Nat) (rM_cutRow : Nat) (iM_breaths : Int32) (iM_cutMany : Int32) (iM_allBreaths : Int32) (rM_trial : Nat) (rM_words : Nat) (iM_fewestBreaths : Int32) (iM_orderMany : Int32) (iM_orderSum : Int32) (iM_leastOrder : Int32) (rM_often : Nat) (iM_setMany : Int32) (iM_someOf : Int32) (iM_allOf : Int32) (iM_allWeight : Int64) (iM_enoughWeight : Int64) (iM_worthSum : Int64) (iM_firstRest : Int32) (iM_leastDrawn : Int32) (p0 : Int32) (p1 : Int32) (p2 : Int32) (p3 : Int32) (p4 : Int32) (b_iM_taped : 0 ≤ iM_taped.toInt ∧ iM_taped.toInt ≤ 900) (b_iM_size : 0 ≤ iM_size.toInt ∧ iM_size.toInt ≤ 900) (b_iM_end : 0 ≤ iM_end.toInt ∧ iM_end.toInt ≤ 900) (b_iM_failed : 0 ≤ iM_failed.toInt ∧ iM_failed.toInt ≤ 1) (b_iM_hasCourt : 0 ≤ iM_hasCourt.toInt ∧ iM_hasCourt.toInt ≤ 1) (b_iM_undos : 0 ≤ iM_undos.toInt ∧ iM_undos.toInt ≤ 16) (b_iM_images : 0 ≤ iM_images.toInt ∧ iM_images.toInt ≤ 3) (b_iM_scale : 1 ≤ iM_scale.toInt ∧ iM_scale.toInt ≤ 1296) (b_iM_breaths : 0 ≤ iM_breaths.toInt ∧ iM_breaths.toInt ≤ 399) (b_iM_cutMany : 0 ≤ iM_cutMany.toInt ∧ iM_cutMany.toInt ≤ 399)  : Met l yX7_feed (Cond.code yX7_feed cX7_feed 8 (some .int) :: wG) ({ frames := 0, cells := 0, slots := 0, locals := 0 }) (va_Pc [.ref oM, .int p0, .int p1, .int p2, .int p3, .int p4] (Pw dC dI sz [(oc7 oM iM_thrown rM_tape iM_taped iM_size iM_at iM_end iM_token iM_whole iM_nameSize iM_fault iM_place iM_trouble rM_letters iM_failed iM_hasCourt rM_r rM_fresh rM_told rM_read rM_st rM_undone rM_kept iM_undos iM_images rM_fresher iM_fresherSize iM_scale iM_night rM_heardRow rM_cutRow iM_breaths iM_cutMany iM_allBreaths rM_trial rM_words iM_fewestBreaths iM_orderMany iM_orderSum iM_leastOrder rM_often iM_setMany iM_someOf iM_allOf iM_allWeight iM_enoughWeight iM_worthSum iM_firstRest iM_leastDrawn), (arI rM_tape kM_tape 900 fM_tape)] [(kM_tape, .int)])) (va_Qi (fun (r : Int32) (u : Nat) => (True ∧ ((880 < iM_taped.toInt ∧ r.toInt = -1) ∨ (iM_taped.toInt ≤ 880 ∧ r.toInt = iM_taped.toInt + 20))) ∧ r = Int32.ofNat u) (fun (u : Nat) (t : State) => ∃ (niM_thrown : Int32) (niM_taped : Int32) (nfM_tape : Nat → Int32), (0 ≤ niM_thrown.toInt ∧ niM_thrown.toInt ≤ 0) ∧ (0 ≤ niM_taped.toInt ∧ niM_taped.toInt ≤ 900) ∧ ((880 < iM_taped.toInt ∧ niM_taped.toInt = iM_taped.toInt) ∨ (iM_taped.toInt ≤ 880 ∧ niM_taped.toInt = iM_taped.toInt + 20)) ∧ (PX7_feed fM_tape iM_taped p0 p1 p2 p3 p4 = (Int32.ofNat u, niM_thrown, niM_taped, nfM_tape)) ∧ Bw dC dI (va_A [(oc7 oM iM_thrown rM_tape iM_taped iM_size iM_at iM_end iM_token iM_whole iM_nameSize iM_fault iM_place iM_trouble rM_letters iM_failed iM_hasCourt rM_r rM_fresh rM_told rM_read rM_st rM_undone rM_kept iM_undos iM_images rM_fresher iM_fresherSize iM_scale iM_night rM_heardRow rM_cutRow iM_breaths iM_cutMany iM_allBreaths rM_trial rM_words iM_fewestBreaths iM_orderMany iM_orderSum iM_leastOrder rM_often iM_setMany iM_someOf iM_allOf iM_allWeight iM_enoughWeight iM_worthSum iM_firstRest iM_leastDrawn), (arI rM_tape kM_tape 900 fM_tape)] sz) [(oc7 oM niM_thrown rM_tape niM_taped iM_size iM_at iM_end iM_token iM_whole iM_nameSize iM_fault iM_place iM_trouble rM_letters iM_failed iM_hasCourt rM_r rM_fresh rM_told rM_read rM_st rM_undone rM_kept iM_undos iM_images rM_fresher iM_fresherSize iM_scale iM_night rM_heardRow rM_cutRow iM_breaths iM_cutMany iM_allBreaths rM_trial rM_words iM_fewestBreaths iM_orderMany iM_orderSum iM_leastOrder rM_often iM_setMany iM_someOf iM_allOf iM_allWeight iM_enoughWeight iM_worthSum iM_firstRest iM_leastDrawn), (arI rM_tape kM_tape 900 nfM_tape)] [(kM_tape, .int)] t) (va_A [(oc7 oM iM_thrown rM_tape iM_taped iM_size iM_at iM_end iM_token iM_whole iM_nameSize iM_fault iM_place iM_trouble rM_letters iM_failed iM_hasCourt rM_r rM_fresh rM_told rM_read rM_st rM_undone rM_kept iM_undos iM_images rM_fresher iM_fresherSize iM_scale iM_night rM_heardRow rM_cutRow iM_breaths iM_cutMany iM_allBreaths rM_trial rM_words iM_fewestBreaths iM_orderMany iM_orderSum iM_leastOrder rM_often iM_setMany iM_someOf iM_allOf iM_allWeight iM_enoughWeight iM_worthSum iM_firstRest iM_leastDrawn), (arI rM_tape kM_tape 900 fM_tape)] sz)) 0 0 (va_A [(oc7 oM iM_thrown rM_tape iM_taped iM_size iM_at iM_end iM_token iM_whole iM_nameSize iM_fault iM_place iM_trouble rM_letters iM_failed iM_hasCourt rM_r rM_fresh rM_told rM_read rM_st rM_undone rM_kept iM_undos iM_images rM_fresher iM_fresherSize iM_scale iM_night rM_heardRow rM_cutRow iM_breaths iM_cutMany iM_allBreaths rM_trial rM_words iM_fewestBreaths iM_orderMany iM_orderSum iM_leastOrder rM_often iM_setMany iM_someOf iM_allOf iM_allWeight iM_enoughWeight iM_worthSum iM_firstRest iM_leastDrawn), (arI rM_tape kM_tape 900 fM_tape)] sz) := by
  refine Met.ofW (cc := cX7_feed) (maxL := 8) (ret := (some .int)) pnX7 rfl ?_
  intro p e s m args below meth c s₁ B hml hv
  obtain ⟨rfl, hsz, hP, hK, hD0, hE⟩ := hv
  have hx := B.exec
  have hb := B.bytes
  have hr := B.returns
  have hts : ∀ w ∈ wG, w.before ([.ref oM, .int p0, .int p1, .int p2, .int p3, .int p4] : List Value).toArray s = true := fun w h => atoms_spec (ws := Cond.code yX7_feed cX7_feed 8 (some .int) :: wG) B.pre w (List.mem_cons_of_mem _ h)
  have hown : s.vm.findClass RX7 = some m.cls := own_of B.named rfl
  have hlocks := B.notSynchronized
  subst hsz
  have hD := hD0.self (sz := s.heap.size)
  generalize hAe : va_A [(oc7 oM iM_thrown rM_tape iM_taped iM_size iM_at iM_end iM_token iM_whole iM_nameSize iM_fault iM_place iM_trouble rM_letters iM_failed iM_hasCourt rM_r rM_fresh rM_told rM_read rM_st rM_undone rM_kept iM_undos iM_images rM_fresher iM_fresherSize iM_scale iM_night rM_heardRow rM_cutRow iM_breaths iM_cutMany iM_allBreaths rM_trial rM_words iM_fewestBreaths iM_orderMany iM_orderSum iM_leastOrder rM_often iM_setMany iM_someOf iM_allOf iM_allWeight iM_enoughWeight iM_worthSum iM_firstRest iM_leastDrawn), (arI rM_tape kM_tape 900 fM_tape)] s.heap.size = A at hD hE ⊢
  have hA : ∀ q : Nat, s.heap.size ≤ q → A q := fun q h => by rw [← hAe]; exact Or.inr h
  have hS : va_S A s.heap s.heap [] := va_S.rf
  have hl := lv_entry ([.ref oM, .int p0, .int p1, .int p2, .int p3, .int p4]) (n := 8) (Nat.le_of_ble_eq_true rfl)
  rw [lg_entry_eq]
  generalize (lg_sl ([.ref oM, .int p0, .int p1, .int p2, .int p3, .int p4]) ++ List.replicate (8 - (lg_sl ([.ref oM, .int p0, .int p1, .int p2, .int p3, .int p4])).length) Slot.unset).toArray = ls at hl ⊢
  have hl : lv_has ls 8 [(0, .ref oM), (1, .int p0), (2, .int p1), (3, .int p2), (4, .int p3), (5, .int p4)] := hl
  have hG := PX7_feed_eq fM_tape iM_taped p0 p1 p2 p3 p4
  refine lv_aload_n hx hb dX7_feed_0 rfl (lv_at hl 0 rfl) ?_
  refine lv_iconst (v := 0) hx hb dX7_feed_1 (by decide) ?_
  refine va_put (D := (dC, dI)) (ci := 7) (v := .int 0) (ty := .int) (C := RX7) (T := TX7) (N := 48) hx hb hts inX7 tyX7 tyX7_ok nmX7 hown hK hP hD hS 0 rfl rfl 0 (by decide) (hts _ wd_184) (fun _ h9 => h9) rfl (by decide +kernel) rfl rfl (Nat.le_of_ble_eq_true rfl) dX7_feed_2 (fun H locs hP hD hS => ?_)
  obtain ⟨hP, hD⟩ := wl2 (ws' := [(oc7 oM 0 rM_tape iM_taped iM_size iM_at iM_end iM_token iM_whole iM_nameSize iM_fault iM_place iM_trouble rM_letters iM_failed iM_hasCourt rM_r rM_fresh rM_told rM_read rM_st rM_undone rM_kept iM_undos iM_images rM_fresher iM_fresherSize iM_scale iM_night rM_heardRow rM_cutRow iM_breaths iM_cutMany iM_allBreaths rM_trial rM_words iM_fewestBreaths iM_orderMany iM_orderSum iM_leastOrder rM_often iM_setMany iM_someOf iM_allOf iM_allWeight iM_enoughWeight iM_worthSum iM_firstRest iM_leastDrawn), (arI rM_tape kM_tape 900 fM_tape)]) hP hD rfl
  refine lv_aload_n hx hb dX7_feed_5 rfl (lv_at hl 0 rfl) ?_
  refine va_get (D := (dC, dI)) (ci := 7) (v := .int iM_taped) (C := RX7) (T := TX7) (N := 48) hx hb hts inX7 hown hK hP 0 rfl rfl 2 (by decide) (hts _ wd_185) (fun _ h9 => h9) rfl dX7_feed_6 ?_
  refine lv_bipush (v := 20) hx hb dX7_feed_9 (by decide) ?_
  refine lv_iadd hx hb dX7_feed_11 ?_
  refine lv_topi (fun x_6950 ex_6950 => ?_)
  have hG := hG.trans (lt_eq ex_6950)
  have vx_6950 : x_6950.toInt = iM_taped.toInt + 20 := ti_add ex_6950 rfl kc_20 (om_72690fb9 b_iM_taped.1) (om_1954cd07 b_iM_taped.2)
  refine lv_sipush (v := 900) hx hb dX7_feed_12 (by decide) ?_
  refine lv_icmp_le (tgt := 20) hx hb dX7_feed_15 (by decide) (fun c_6951 => ?_) (fun c_6951 => ?_)
  · skip
    have hG := hG.trans (if_pos c_6951)
    have gc_6951 := ti_le c_6951 vx_6950 kc_900
    refine lv_iconst (v := 0) hx hb dX7_feed_20 (by decide) ?_
    refine lv_istore (lv' := [(6, .int 0), (0, .ref oM), (1, .int p0), (2, .int p1), (3, .int p2), (4, .int p3), (5, .int p4)]) hx hb dX7_feed_21 hl (by decide) rfl (fun ls hl => ?_)
    have hl := lv_sub hl (l' := [(6, .int 0), (0, .ref oM), (1, .int p0), (2, .int p1), (3, .int p2), (4, .int p3), (5, .int p4)]) [0, 1, 2, 3, 4, 5, 6] rfl
    have key_n_6955 : ∀ (n_6955 : Nat) (z_6952 : Int32) (z_6953 : Int32) (f_6954 : Nat → Int32) (H : Heap) (locs : List Loc) (ls : Array Slot), (0 ≤ z_6953.toInt ∧ z_6953.toInt ≤ 900) → (0 ≤ z_6952.toInt ∧ z_6952.toInt ≤ 20) → (z_6953.toInt = iM_taped.toInt + z_6952.toInt) → (20 - z_6952.toInt).toNat < n_6955 → (PX7_feed fM_tape iM_taped p0 p1 p2 p3 p4 = HX7_feed_0 p0 p1 p2 p3 p4 n_6955 z_6952 z_6953 f_6954) → va_P (dC, dI) vwCl [(oc7 oM 0 rM_tape z_6953 iM_size iM_at iM_end iM_token iM_whole iM_nameSize iM_fault iM_place iM_trouble rM_letters iM_failed iM_hasCourt rM_r rM_fresh rM_told rM_read rM_st rM_undone rM_kept iM_undos iM_images rM_fresher iM_fresherSize iM_scale iM_night rM_heardRow rM_cutRow iM_breaths iM_cutMany iM_allBreaths rM_trial rM_words iM_fewestBreaths iM_orderMany iM_orderSum iM_leastOrder rM_often iM_setMany iM_someOf iM_allOf iM_allWeight iM_enoughWeight iM_worthSum iM_firstRest iM_leastDrawn), (arI rM_tape kM_tape 900 f_6954)] H → va_D A [(oc7 oM 0 rM_tape z_6953 iM_size iM_at iM_end iM_token iM_whole iM_nameSize iM_fault iM_place iM_trouble rM_letters iM_failed iM_hasCourt rM_r rM_fresh rM_told rM_read rM_st rM_undone rM_kept iM_undos iM_images rM_fresher iM_fresherSize iM_scale iM_night rM_heardRow rM_cutRow iM_breaths iM_cutMany iM_allBreaths rM_trial rM_words iM_fewestBreaths iM_orderMany iM_orderSum iM_leastOrder rM_often iM_setMany iM_someOf iM_allOf iM_allWeight iM_enoughWeight iM_worthSum iM_firstRest iM_leastDrawn), (arI rM_tape kM_tape 900 f_6954)] → va_S A s.heap H locs → lv_has ls 8 [(6, .int z_6952), (0, .ref oM), (1, .int p0), (2, .int p1), (3, .int p2), (4, .int p3), (5, .int p4)] → W p l e (headSpec (Cond.code yX7_feed cX7_feed 8 (some .int) :: wG) ({ frames := 0, cells := 0, slots := 0, locals := 0 })).room s m ([.ref oM, .int p0, .int p1, .int p2, .int p3, .int p4] : List Value).toArray below meth c H locs 0 0 (MQ below (va_Qi (fun (r : Int32) (u : Nat) => (True ∧ ((880 < iM_taped.toInt ∧ r.toInt = -1) ∨ (iM_taped.toInt ≤ 880 ∧ r.toInt = iM_taped.toInt + 20))) ∧ r = Int32.ofNat u) (fun (u : Nat) (t : State) => ∃ (niM_thrown : Int32) (niM_taped : Int32) (nfM_tape : Nat → Int32), (0 ≤ niM_thrown.toInt ∧ niM_thrown.toInt ≤ 0) ∧ (0 ≤ niM_taped.toInt ∧ niM_taped.toInt ≤ 900) ∧ ((880 < iM_taped.toInt ∧ niM_taped.toInt = iM_taped.toInt) ∨ (iM_taped.toInt ≤ 880 ∧ niM_taped.toInt = iM_taped.toInt + 20)) ∧ (PX7_feed fM_tape iM_taped p0 p1 p2 p3 p4 = (Int32.ofNat u, niM_thrown, niM_taped, nfM_tape)) ∧ Bw dC dI A [(oc7 oM niM_thrown rM_tape niM_taped iM_size iM_at iM_end iM_token iM_whole iM_nameSize iM_fault iM_place iM_trouble rM_letters iM_failed iM_hasCourt rM_r rM_fresh rM_told rM_read rM_st rM_undone rM_kept iM_undos iM_images rM_fresher iM_fresherSize iM_scale iM_night rM_heardRow rM_cutRow iM_breaths iM_cutMany iM_allBreaths rM_trial rM_words iM_fewestBreaths iM_orderMany iM_orderSum iM_leastOrder rM_often iM_setMany iM_someOf iM_allOf iM_allWeight iM_enoughWeight iM_worthSum iM_firstRest iM_leastDrawn), (arI rM_tape kM_tape 900 nfM_tape)] [(kM_tape, .int)] t) A) ([.ref oM, .int p0, .int p1, .int p2, .int p3, .int p4] : List Value).toArray s 0 0 A) (F0 m 23 ls []) := by
      intro n_6955
      induction n_6955 with
      | zero => intro z_6952 z_6953 f_6954 H locs ls b_z_6953 hi0_n_6955 hi1_n_6955 hm; exact absurd hm (Nat.not_lt_zero _)
      | succ n_6955 ih_n_6955 =>
        intro z_6952 z_6953 f_6954 H locs ls b_z_6953 hi0_n_6955 hi1_n_6955 hm_n_6955 hG hP hD hS hl
        have hG := hG.trans (HX7_feed_0_eq _ _ _ _ _ _ _ _ _)
        refine lv_iload hx hb dX7_feed_23 (lv_at hl 0 rfl) ?_
        refine lv_bipush (v := 20) hx hb dX7_feed_25 (by decide) ?_
        refine lv_icmp_ge (tgt := 120) hx hb dX7_feed_27 (by decide) (fun c_6956 => ?_) (fun c_6956 => ?_)
        · skip
          have hG := hG.trans (if_pos c_6956)
          have gc_6956 := ti_le c_6956 kc_20 rfl
          refine lv_aload_n hx hb dX7_feed_120 rfl (lv_at hl 1 rfl) ?_
          refine va_get (D := (dC, dI)) (ci := 7) (v := .int z_6953) (C := RX7) (T := TX7) (N := 48) hx hb hts inX7 hown hK hP 0 rfl rfl 2 (by decide) (hts _ wd_185) (fun _ h9 => h9) rfl dX7_feed_121 ?_
          exact wq_i hx hb hr (cI z_6953) ⟨⟨trivial, (by first | omega | assumption)⟩, (cI_of z_6953)⟩ (fun t ht hW => ⟨0, z_6953, f_6954, (by decide), b_z_6953, (by have q0 := kc_0; omega), (cI_tup hG), Bw.to hP hD hK ht hW⟩) hS dX7_feed_124 hlocks
        · skip
          have hG := hG.trans (if_neg c_6956)
          have gc_6956 := ti_nle c_6956 kc_20 rfl
          refine lv_iload hx hb dX7_feed_30 (lv_at hl 0 rfl) ?_
          refine lv_iconst (v := 4) hx hb dX7_feed_32 (by decide) ?_
          refine lv_icmp_ge (tgt := 40) hx hb dX7_feed_33 (by decide) (fun c_6957 => ?_) (fun c_6957 => ?_)
          · skip
            have hG := hG.trans (if_pos c_6957)
            have gc_6957 := ti_le c_6957 kc_4 rfl
            refine lv_iload hx hb dX7_feed_40 (lv_at hl 0 rfl) ?_
            refine lv_bipush (v := 8) hx hb dX7_feed_42 (by decide) ?_
            refine lv_icmp_ge (tgt := 51) hx hb dX7_feed_44 (by decide) (fun c_6958 => ?_) (fun c_6958 => ?_)
            · skip
              have hG := hG.trans (if_pos c_6958)
              have gc_6958 := ti_le c_6958 kc_8 rfl
              refine lv_iload hx hb dX7_feed_51 (lv_at hl 0 rfl) ?_
              refine lv_bipush (v := 12) hx hb dX7_feed_53 (by decide) ?_
              refine lv_icmp_ge (tgt := 62) hx hb dX7_feed_55 (by decide) (fun c_6959 => ?_) (fun c_6959 => ?_)
              · skip
                have hG := hG.trans (if_pos c_6959)
                have gc_6959 := ti_le c_6959 kc_12 rfl
                refine lv_iload hx hb dX7_feed_62 (lv_at hl 0 rfl) ?_
                refine lv_bipush (v := 16) hx hb dX7_feed_64 (by decide) ?_
                refine lv_icmp_ge (tgt := 74) hx hb dX7_feed_66 (by decide) (fun c_6960 => ?_) (fun c_6960 => ?_)
                · skip
                  have hG := hG.trans (if_pos c_6960)
                  have gc_6960 := ti_le c_6960 kc_16 rfl
                  refine lv_iload hx hb dX7_feed_74 (lv_at hl 6 rfl) ?_
                  refine lv_istore (lv' := [(7, .int p4), (6, .int z_6952), (0, .ref oM), (1, .int p0), (2, .int p1), (3, .int p2), (4, .int p3), (5, .int p4)]) hx hb dX7_feed_76 hl (by decide) rfl (fun ls hl => ?_)
                  refine lv_aload_n hx hb dX7_feed_78 rfl (lv_at hl 2 rfl) ?_
                  refine va_get (D := (dC, dI)) (ci := 7) (v := .ref rM_tape) (C := RX7) (T := TX7) (N := 48) hx hb hts inX7 hown hK hP 0 rfl rfl 1 (by decide) (hts _ wd_152) (fun _ h9 => h9) rfl dX7_feed_79 ?_
                  refine lv_aload_n hx hb dX7_feed_82 rfl (lv_at hl 2 rfl) ?_
                  refine va_get (D := (dC, dI)) (ci := 7) (v := .int z_6953) (C := RX7) (T := TX7) (N := 48) hx hb hts inX7 hown hK hP 0 rfl rfl 2 (by decide) (hts _ wd_185) (fun _ h9 => h9) rfl dX7_feed_83 ?_
                  refine lv_iload hx hb dX7_feed_86 (lv_at hl 0 rfl) ?_
                  refine lv_bipush (v := 24) hx hb dX7_feed_88 (by decide) ?_
                  refine lv_bipush (v := 8) hx hb dX7_feed_90 (by decide) ?_
                  refine lv_iload hx hb dX7_feed_92 (lv_at hl 1 rfl) ?_
                  refine lv_iconst (v := 4) hx hb dX7_feed_94 (by decide) ?_
                  refine lv_irem hx hb dX7_feed_95 (by decide) ?_
                  refine lv_topi (fun x_6961 ex_6961 => ?_)
                  have hG := hG.trans (lt_eq ex_6961)
                  have qx_6961 := ti_rem ex_6961 rfl kc_4 hi0_n_6955.1 (by decide)
                  have Qx_6961 := ti_remE ex_6961 rfl kc_4 hi0_n_6955.1 (by decide)
                  refine lv_imul hx hb dX7_feed_96 ?_
                  refine lv_topi (fun x_6962 ex_6962 => ?_)
                  have hG := hG.trans (lt_eq ex_6962)
                  have vx_6962 : x_6962.toInt = 8 * x_6961.toInt := ti_mul ex_6962 kc_8 rfl (om_894b99c2 qx_6961.1) (om_626b9a18 qx_6961.2.1)
                  refine lv_isub hx hb dX7_feed_97 ?_
                  refine lv_topi (fun x_6963 ex_6963 => ?_)
                  have hG := hG.trans (lt_eq ex_6963)
                  have vx_6963 : x_6963.toInt = (-8) * x_6961.toInt + 24 := om_152fbd22 (ti_sub ex_6963 kc_24 vx_6962 (om_aa692474 qx_6961.2.1) (om_bd3e8f22 qx_6961.1))
                  refine lv_ishr hx hb dX7_feed_98 ?_
                  refine lv_topi (fun x_6964 ex_6964 => ?_)
                  have hG := hG.trans (lt_eq ex_6964)
                  refine lv_sipush (v := 255) hx hb dX7_feed_99 (by decide) ?_
                  refine lv_iand hx hb dX7_feed_102 ?_
                  refine lv_topi (fun x_6965 ex_6965 => ?_)
                  have hG := hG.trans (lt_eq ex_6965)
                  refine va_iast hx hb hK hP hD hS 1 0 rfl rfl (ti_in rfl b_z_6953.1 (om_53efa0b0 gc_6951 hi1_n_6955 gc_6956)) dX7_feed_103 (fun H locs hP hD hS => ?_)
                  obtain ⟨f_6967, ef_6967⟩ : ∃ g : Nat → Int32, g = upd f_6954 z_6953.toNatClampNeg x_6965 := ⟨_, rfl⟩
                  rw [← ef_6967] at hP hD
                  have hG := hG.trans (lt_eq ef_6967)
                  obtain ⟨hP, hD⟩ := wl2 (ws' := [(oc7 oM 0 rM_tape z_6953 iM_size iM_at iM_end iM_token iM_whole iM_nameSize iM_fault iM_place iM_trouble rM_letters iM_failed iM_hasCourt rM_r rM_fresh rM_told rM_read rM_st rM_undone rM_kept iM_undos iM_images rM_fresher iM_fresherSize iM_scale iM_night rM_heardRow rM_cutRow iM_breaths iM_cutMany iM_allBreaths rM_trial rM_words iM_fewestBreaths iM_orderMany iM_orderSum iM_leastOrder rM_often iM_setMany iM_someOf iM_allOf iM_allWeight iM_enoughWeight iM_worthSum iM_firstRest iM_leastDrawn), (arI rM_tape kM_tape 900 f_6967)]) hP hD rfl
                  refine lv_aload_n hx hb dX7_feed_104 rfl (lv_at hl 2 rfl) ?_
                  refine lv_dup hx hb dX7_feed_105 rfl ?_
                  refine va_get (D := (dC, dI)) (ci := 7) (v := .int z_6953) (C := RX7) (T := TX7) (N := 48) hx hb hts inX7 hown hK hP 0 rfl rfl 2 (by decide) (hts _ wd_185) (fun _ h9 => h9) rfl dX7_feed_106 ?_
                  refine lv_iconst (v := 1) hx hb dX7_feed_109 (by decide) ?_
                  refine lv_iadd hx hb dX7_feed_110 ?_
                  refine lv_topi (fun x_6968 ex_6968 => ?_)
                  have hG := hG.trans (lt_eq ex_6968)
                  have vx_6968 : x_6968.toInt = z_6953.toInt + 1 := ti_add ex_6968 rfl kc_1 (om_4e4fce7e b_z_6953.1) (om_a4907767 b_z_6953.2)
                  refine va_put (D := (dC, dI)) (ci := 7) (v := .int x_6968) (ty := .int) (C := RX7) (T := TX7) (N := 48) hx hb hts inX7 tyX7 tyX7_ok nmX7 hown hK hP hD hS 0 rfl rfl 2 (by decide) (hts _ wd_185) (fun _ h9 => h9) rfl (by decide +kernel) rfl rfl (Nat.le_of_ble_eq_true rfl) dX7_feed_111 (fun H locs hP hD hS => ?_)
                  obtain ⟨hP, hD⟩ := wl2 (ws' := [(oc7 oM 0 rM_tape x_6968 iM_size iM_at iM_end iM_token iM_whole iM_nameSize iM_fault iM_place iM_trouble rM_letters iM_failed iM_hasCourt rM_r rM_fresh rM_told rM_read rM_st rM_undone rM_kept iM_undos iM_images rM_fresher iM_fresherSize iM_scale iM_night rM_heardRow rM_cutRow iM_breaths iM_cutMany iM_allBreaths rM_trial rM_words iM_fewestBreaths iM_orderMany iM_orderSum iM_leastOrder rM_often iM_setMany iM_someOf iM_allOf iM_allWeight iM_enoughWeight iM_worthSum iM_firstRest iM_leastDrawn), (arI rM_tape kM_tape 900 f_6967)]) hP hD rfl
                  obtain ⟨x_6969, ex_6969⟩ : ∃ z : Int32, z = z_6952 + Int32.ofInt 1 := ⟨_, rfl⟩
                  have hG := hG.trans (lt_eq ex_6969)
                  have vx_6969 : x_6969.toInt = z_6952.toInt + 1 := ti_add (y := 1) ex_6969 rfl kc_1 (om_4e4fce7e hi0_n_6955.1) (om_575634be hi0_n_6955.2)
                  refine lv_iinc (v := x_6969) (lv' := [(6, .int x_6969), (7, .int p4), (0, .ref oM), (1, .int p0), (2, .int p1), (3, .int p2), (4, .int p3), (5, .int p4)]) hx hb dX7_feed_114 hl (k := 1) rfl ex_6969.symm (by decide) rfl (fun ls hl => ?_)
                  refine lv_goto (tgt := 23) hx hb dX7_feed_117 (by decide) ?_
                  exact ih_n_6955 x_6969 x_6968 f_6967 _ _ _ ⟨(om_83b90de5 b_z_6953.1 vx_6968), (om_80749fdb gc_6951 hi1_n_6955 gc_6956 vx_6968)⟩ ⟨(om_83b90de5 hi0_n_6955.1 vx_6969), (om_63cf9d31 gc_6956 vx_6969)⟩ (om_14f5635e hi1_n_6955 vx_6968 vx_6969) (ms_lt hm_n_6955 (om_91c3f935 vx_6969) (om_49eecdc2 gc_6956)) hG hP hD hS (lv_sub hl [0, 2, 3, 4, 5, 6, 7] rfl)
                · skip
                  have hG := hG.trans (if_neg c_6960)
                  have gc_6960 := ti_nle c_6960 kc_16 rfl
                  refine lv_iload hx hb dX7_feed_69 (lv_at hl 5 rfl) ?_
                  refine lv_goto (tgt := 76) hx hb dX7_feed_71 (by decide) ?_
                  refine lv_istore (lv' := [(7, .int p3), (6, .int z_6952), (0, .ref oM), (1, .int p0), (2, .int p1), (3, .int p2), (4, .int p3), (5, .int p4)]) hx hb dX7_feed_76 hl (by decide) rfl (fun ls hl => ?_)
                  refine lv_aload_n hx hb dX7_feed_78 rfl (lv_at hl 2 rfl) ?_
                  refine va_get (D := (dC, dI)) (ci := 7) (v := .ref rM_tape) (C := RX7) (T := TX7) (N := 48) hx hb hts inX7 hown hK hP 0 rfl rfl 1 (by decide) (hts _ wd_152) (fun _ h9 => h9) rfl dX7_feed_79 ?_
                  refine lv_aload_n hx hb dX7_feed_82 rfl (lv_at hl 2 rfl) ?_
                  refine va_get (D := (dC, dI)) (ci := 7) (v := .int z_6953) (C := RX7) (T := TX7) (N := 48) hx hb hts inX7 hown hK hP 0 rfl rfl 2 (by decide) (hts _ wd_185) (fun _ h9 => h9) rfl dX7_feed_83 ?_
                  refine lv_iload hx hb dX7_feed_86 (lv_at hl 0 rfl) ?_
                  refine lv_bipush (v := 24) hx hb dX7_feed_88 (by decide) ?_
                  refine lv_bipush (v := 8) hx hb dX7_feed_90 (by decide) ?_
                  refine lv_iload hx hb dX7_feed_92 (lv_at hl 1 rfl) ?_
                  refine lv_iconst (v := 4) hx hb dX7_feed_94 (by decide) ?_
                  refine lv_irem hx hb dX7_feed_95 (by decide) ?_
                  refine lv_topi (fun x_6970 ex_6970 => ?_)
                  have hG := hG.trans (lt_eq ex_6970)
                  have qx_6970 := ti_rem ex_6970 rfl kc_4 hi0_n_6955.1 (by decide)
                  have Qx_6970 := ti_remE ex_6970 rfl kc_4 hi0_n_6955.1 (by decide)
                  refine lv_imul hx hb dX7_feed_96 ?_
                  refine lv_topi (fun x_6971 ex_6971 => ?_)
                  have hG := hG.trans (lt_eq ex_6971)
                  have vx_6971 : x_6971.toInt = 8 * x_6970.toInt := ti_mul ex_6971 kc_8 rfl (om_894b99c2 qx_6970.1) (om_626b9a18 qx_6970.2.1)
                  refine lv_isub hx hb dX7_feed_97 ?_
                  refine lv_topi (fun x_6972 ex_6972 => ?_)
                  have hG := hG.trans (lt_eq ex_6972)
                  have vx_6972 : x_6972.toInt = (-8) * x_6970.toInt + 24 := om_152fbd22 (ti_sub ex_6972 kc_24 vx_6971 (om_aa692474 qx_6970.2.1) (om_bd3e8f22 qx_6970.1))
                  refine lv_ishr hx hb dX7_feed_98 ?_
                  refine lv_topi (fun x_6973 ex_6973 => ?_)
                  have hG := hG.trans (lt_eq ex_6973)
                  refine lv_sipush (v := 255) hx hb dX7_feed_99 (by decide) ?_
                  refine lv_iand hx hb dX7_feed_102 ?_
                  refine lv_topi (fun x_6974 ex_6974 => ?_)
                  have hG := hG.trans (lt_eq ex_6974)
                  refine va_iast hx hb hK hP hD hS 1 0 rfl rfl (ti_in rfl b_z_6953.1 (om_53efa0b0 gc_6951 hi1_n_6955 gc_6956)) dX7_feed_103 (fun H locs hP hD hS => ?_)
                  obtain ⟨f_6976, ef_6976⟩ : ∃ g : Nat → Int32, g = upd f_6954 z_6953.toNatClampNeg x_6974 := ⟨_, rfl⟩
                  rw [← ef_6976] at hP hD
                  have hG := hG.trans (lt_eq ef_6976)
                  obtain ⟨hP, hD⟩ := wl2 (ws' := [(oc7 oM 0 rM_tape z_6953 iM_size iM_at iM_end iM_token iM_whole iM_nameSize iM_fault iM_place iM_trouble rM_letters iM_failed iM_hasCourt rM_r rM_fresh rM_told rM_read rM_st rM_undone rM_kept iM_undos iM_images rM_fresher iM_fresherSize iM_scale iM_night rM_heardRow rM_cutRow iM_breaths iM_cutMany iM_allBreaths rM_trial rM_words iM_fewestBreaths iM_orderMany iM_orderSum iM_leastOrder rM_often iM_setMany iM_someOf iM_allOf iM_allWeight iM_enoughWeight iM_worthSum iM_firstRest iM_leastDrawn), (arI rM_tape kM_tape 900 f_6976)]) hP hD rfl
                  refine lv_aload_n hx hb dX7_feed_104 rfl (lv_at hl 2 rfl) ?_
                  refine lv_dup hx hb dX7_feed_105 rfl ?_
                  refine va_get (D := (dC, dI)) (ci := 7) (v := .int z_6953) (C := RX7) (T := TX7) (N := 48) hx hb hts inX7 hown hK hP 0 rfl rfl 2 (by decide) (hts _ wd_185) (fun _ h9 => h9) rfl dX7_feed_106 ?_
                  refine lv_iconst (v := 1) hx hb dX7_feed_109 (by decide) ?_
                  refine lv_iadd hx hb dX7_feed_110 ?_
                  refine lv_topi (fun x_6977 ex_6977 => ?_)
                  have hG := hG.trans (lt_eq ex_6977)
                  have vx_6977 : x_6977.toInt = z_6953.toInt + 1 := ti_add ex_6977 rfl kc_1 (om_4e4fce7e b_z_6953.1) (om_a4907767 b_z_6953.2)
                  refine va_put (D := (dC, dI)) (ci := 7) (v := .int x_6977) (ty := .int) (C := RX7) (T := TX7) (N := 48) hx hb hts inX7 tyX7 tyX7_ok nmX7 hown hK hP hD hS 0 rfl rfl 2 (by decide) (hts _ wd_185) (fun _ h9 => h9) rfl (by decide +kernel) rfl rfl (Nat.le_of_ble_eq_true rfl) dX7_feed_111 (fun H locs hP hD hS => ?_)
                  obtain ⟨hP, hD⟩ := wl2 (ws' := [(oc7 oM 0 rM_tape x_6977 iM_size iM_at iM_end iM_token iM_whole iM_nameSize iM_fault iM_place iM_trouble rM_letters iM_failed iM_hasCourt rM_r rM_fresh rM_told rM_read rM_st rM_undone rM_kept iM_undos iM_images rM_fresher iM_fresherSize iM_scale iM_night rM_heardRow rM_cutRow iM_breaths iM_cutMany iM_allBreaths rM_trial rM_words iM_fewestBreaths iM_orderMany iM_orderSum iM_leastOrder rM_often iM_setMany iM_someOf iM_allOf iM_allWeight iM_enoughWeight iM_worthSum iM_firstRest iM_leastDrawn), (arI rM_tape kM_tape 900 f_6976)]) hP hD rfl
                  obtain ⟨x_6978, ex_6978⟩ : ∃ z : Int32, z = z_6952 + Int32.ofInt 1 := ⟨_, rfl⟩
                  have hG := hG.trans (lt_eq ex_6978)
                  have vx_6978 : x_6978.toInt = z_6952.toInt + 1 := ti_add (y := 1) ex_6978 rfl kc_1 (om_4e4fce7e hi0_n_6955.1) (om_575634be hi0_n_6955.2)
                  refine lv_iinc (v := x_6978) (lv' := [(6, .int x_6978), (7, .int p3), (0, .ref oM), (1, .int p0), (2, .int p1), (3, .int p2), (4, .int p3), (5, .int p4)]) hx hb dX7_feed_114 hl (k := 1) rfl ex_6978.symm (by decide) rfl (fun ls hl => ?_)
                  refine lv_goto (tgt := 23) hx hb dX7_feed_117 (by decide) ?_
                  exact ih_n_6955 x_6978 x_6977 f_6976 _ _ _ ⟨(om_83b90de5 b_z_6953.1 vx_6977), (om_80749fdb gc_6951 hi1_n_6955 gc_6956 vx_6977)⟩ ⟨(om_83b90de5 hi0_n_6955.1 vx_6978), (om_63cf9d31 gc_6956 vx_6978)⟩ (om_14f5635e hi1_n_6955 vx_6977 vx_6978) (ms_lt hm_n_6955 (om_91c3f935 vx_6978) (om_49eecdc2 gc_6956)) hG hP hD hS (lv_sub hl [0, 2, 3, 4, 5, 6, 7] rfl)
              · skip
                have hG := hG.trans (if_neg c_6959)
                have gc_6959 := ti_nle c_6959 kc_12 rfl
                refine lv_iload_n hx hb dX7_feed_58 rfl (lv_at hl 4 rfl) ?_
                refine lv_goto (tgt := 76) hx hb dX7_feed_59 (by decide) ?_
                refine lv_istore (lv' := [(7, .int p2), (6, .int z_6952), (0, .ref oM), (1, .int p0), (2, .int p1), (3, .int p2), (4, .int p3), (5, .int p4)]) hx hb dX7_feed_76 hl (by decide) rfl (fun ls hl => ?_)
                refine lv_aload_n hx hb dX7_feed_78 rfl (lv_at hl 2 rfl) ?_
                refine va_get (D := (dC, dI)) (ci := 7) (v := .ref rM_tape) (C := RX7) (T := TX7) (N := 48) hx hb hts inX7 hown hK hP 0 rfl rfl 1 (by decide) (hts _ wd_152) (fun _ h9 => h9) rfl dX7_feed_79 ?_
                refine lv_aload_n hx hb dX7_feed_82 rfl (lv_at hl 2 rfl) ?_
                refine va_get (D := (dC, dI)) (ci := 7) (v := .int z_6953) (C := RX7) (T := TX7) (N := 48) hx hb hts inX7 hown hK hP 0 rfl rfl 2 (by decide) (hts _ wd_185) (fun _ h9 => h9) rfl dX7_feed_83 ?_
                refine lv_iload hx hb dX7_feed_86 (lv_at hl 0 rfl) ?_
                refine lv_bipush (v := 24) hx hb dX7_feed_88 (by decide) ?_
                refine lv_bipush (v := 8) hx hb dX7_feed_90 (by decide) ?_
                refine lv_iload hx hb dX7_feed_92 (lv_at hl 1 rfl) ?_
                refine lv_iconst (v := 4) hx hb dX7_feed_94 (by decide) ?_
                refine lv_irem hx hb dX7_feed_95 (by decide) ?_
                refine lv_topi (fun x_6979 ex_6979 => ?_)
                have hG := hG.trans (lt_eq ex_6979)
                have qx_6979 := ti_rem ex_6979 rfl kc_4 hi0_n_6955.1 (by decide)
                have Qx_6979 := ti_remE ex_6979 rfl kc_4 hi0_n_6955.1 (by decide)
                refine lv_imul hx hb dX7_feed_96 ?_
                refine lv_topi (fun x_6980 ex_6980 => ?_)
                have hG := hG.trans (lt_eq ex_6980)
                have vx_6980 : x_6980.toInt = 8 * x_6979.toInt := ti_mul ex_6980 kc_8 rfl (om_894b99c2 qx_6979.1) (om_626b9a18 qx_6979.2.1)
                refine lv_isub hx hb dX7_feed_97 ?_
                refine lv_topi (fun x_6981 ex_6981 => ?_)
                have hG := hG.trans (lt_eq ex_6981)
                have vx_6981 : x_6981.toInt = (-8) * x_6979.toInt + 24 := om_152fbd22 (ti_sub ex_6981 kc_24 vx_6980 (om_aa692474 qx_6979.2.1) (om_bd3e8f22 qx_6979.1))
                refine lv_ishr hx hb dX7_feed_98 ?_
                refine lv_topi (fun x_6982 ex_6982 => ?_)
                have hG := hG.trans (lt_eq ex_6982)
                refine lv_sipush (v := 255) hx hb dX7_feed_99 (by decide) ?_
                refine lv_iand hx hb dX7_feed_102 ?_
                refine lv_topi (fun x_6983 ex_6983 => ?_)
                have hG := hG.trans (lt_eq ex_6983)
                refine va_iast hx hb hK hP hD hS 1 0 rfl rfl (ti_in rfl b_z_6953.1 (om_53efa0b0 gc_6951 hi1_n_6955 gc_6956)) dX7_feed_103 (fun H locs hP hD hS => ?_)
                obtain ⟨f_6985, ef_6985⟩ : ∃ g : Nat → Int32, g = upd f_6954 z_6953.toNatClampNeg x_6983 := ⟨_, rfl⟩
                rw [← ef_6985] at hP hD
                have hG := hG.trans (lt_eq ef_6985)
                obtain ⟨hP, hD⟩ := wl2 (ws' := [(oc7 oM 0 rM_tape z_6953 iM_size iM_at iM_end iM_token iM_whole iM_nameSize iM_fault iM_place iM_trouble rM_letters iM_failed iM_hasCourt rM_r rM_fresh rM_told rM_read rM_st rM_undone rM_kept iM_undos iM_images rM_fresher iM_fresherSize iM_scale iM_night rM_heardRow rM_cutRow iM_breaths iM_cutMany iM_allBreaths rM_trial rM_words iM_fewestBreaths iM_orderMany iM_orderSum iM_leastOrder rM_often iM_setMany iM_someOf iM_allOf iM_allWeight iM_enoughWeight iM_worthSum iM_firstRest iM_leastDrawn), (arI rM_tape kM_tape 900 f_6985)]) hP hD rfl
                refine lv_aload_n hx hb dX7_feed_104 rfl (lv_at hl 2 rfl) ?_
                refine lv_dup hx hb dX7_feed_105 rfl ?_
                refine va_get (D := (dC, dI)) (ci := 7) (v := .int z_6953) (C := RX7) (T := TX7) (N := 48) hx hb hts inX7 hown hK hP 0 rfl rfl 2 (by decide) (hts _ wd_185) (fun _ h9 => h9) rfl dX7_feed_106 ?_
                refine lv_iconst (v := 1) hx hb dX7_feed_109 (by decide) ?_
                refine lv_iadd hx hb dX7_feed_110 ?_
                refine lv_topi (fun x_6986 ex_6986 => ?_)
                have hG := hG.trans (lt_eq ex_6986)
                have vx_6986 : x_6986.toInt = z_6953.toInt + 1 := ti_add ex_6986 rfl kc_1 (om_4e4fce7e b_z_6953.1) (om_a4907767 b_z_6953.2)
                refine va_put (D := (dC, dI)) (ci := 7) (v := .int x_6986) (ty := .int) (C := RX7) (T := TX7) (N := 48) hx hb hts inX7 tyX7 tyX7_ok nmX7 hown hK hP hD hS 0 rfl rfl 2 (by decide) (hts _ wd_185) (fun _ h9 => h9) rfl (by decide +kernel) rfl rfl (Nat.le_of_ble_eq_true rfl) dX7_feed_111 (fun H locs hP hD hS => ?_)
                obtain ⟨hP, hD⟩ := wl2 (ws' := [(oc7 oM 0 rM_tape x_6986 iM_size iM_at iM_end iM_token iM_whole iM_nameSize iM_fault iM_place iM_trouble rM_letters iM_failed iM_hasCourt rM_r rM_fresh rM_told rM_read rM_st rM_undone rM_kept iM_undos iM_images rM_fresher iM_fresherSize iM_scale iM_night rM_heardRow rM_cutRow iM_breaths iM_cutMany iM_allBreaths rM_trial rM_words iM_fewestBreaths iM_orderMany iM_orderSum iM_leastOrder rM_often iM_setMany iM_someOf iM_allOf iM_allWeight iM_enoughWeight iM_worthSum iM_firstRest iM_leastDrawn), (arI rM_tape kM_tape 900 f_6985)]) hP hD rfl
                obtain ⟨x_6987, ex_6987⟩ : ∃ z : Int32, z = z_6952 + Int32.ofInt 1 := ⟨_, rfl⟩
                have hG := hG.trans (lt_eq ex_6987)
                have vx_6987 : x_6987.toInt = z_6952.toInt + 1 := ti_add (y := 1) ex_6987 rfl kc_1 (om_4e4fce7e hi0_n_6955.1) (om_575634be hi0_n_6955.2)
                refine lv_iinc (v := x_6987) (lv' := [(6, .int x_6987), (7, .int p2), (0, .ref oM), (1, .int p0), (2, .int p1), (3, .int p2), (4, .int p3), (5, .int p4)]) hx hb dX7_feed_114 hl (k := 1) rfl ex_6987.symm (by decide) rfl (fun ls hl => ?_)
                refine lv_goto (tgt := 23) hx hb dX7_feed_117 (by decide) ?_
                exact ih_n_6955 x_6987 x_6986 f_6985 _ _ _ ⟨(om_83b90de5 b_z_6953.1 vx_6986), (om_80749fdb gc_6951 hi1_n_6955 gc_6956 vx_6986)⟩ ⟨(om_83b90de5 hi0_n_6955.1 vx_6987), (om_63cf9d31 gc_6956 vx_6987)⟩ (om_14f5635e hi1_n_6955 vx_6986 vx_6987) (ms_lt hm_n_6955 (om_91c3f935 vx_6987) (om_49eecdc2 gc_6956)) hG hP hD hS (lv_sub hl [0, 2, 3, 4, 5, 6, 7] rfl)
            · skip
              have hG := hG.trans (if_neg c_6958)
              have gc_6958 := ti_nle c_6958 kc_8 rfl
              refine lv_iload_n hx hb dX7_feed_47 rfl (lv_at hl 3 rfl) ?_
              refine lv_goto (tgt := 76) hx hb dX7_feed_48 (by decide) ?_
              refine lv_istore (lv' := [(7, .int p1), (6, .int z_6952), (0, .ref oM), (1, .int p0), (2, .int p1), (3, .int p2), (4, .int p3), (5, .int p4)]) hx hb dX7_feed_76 hl (by decide) rfl (fun ls hl => ?_)
              refine lv_aload_n hx hb dX7_feed_78 rfl (lv_at hl 2 rfl) ?_
              refine va_get (D := (dC, dI)) (ci := 7) (v := .ref rM_tape) (C := RX7) (T := TX7) (N := 48) hx hb hts inX7 hown hK hP 0 rfl rfl 1 (by decide) (hts _ wd_152) (fun _ h9 => h9) rfl dX7_feed_79 ?_
              refine lv_aload_n hx hb dX7_feed_82 rfl (lv_at hl 2 rfl) ?_
              refine va_get (D := (dC, dI)) (ci := 7) (v := .int z_6953) (C := RX7) (T := TX7) (N := 48) hx hb hts inX7 hown hK hP 0 rfl rfl 2 (by decide) (hts _ wd_185) (fun _ h9 => h9) rfl dX7_feed_83 ?_
              refine lv_iload hx hb dX7_feed_86 (lv_at hl 0 rfl) ?_
              refine lv_bipush (v := 24) hx hb dX7_feed_88 (by decide) ?_
              refine lv_bipush (v := 8) hx hb dX7_feed_90 (by decide) ?_
              refine lv_iload hx hb dX7_feed_92 (lv_at hl 1 rfl) ?_
              refine lv_iconst (v := 4) hx hb dX7_feed_94 (by decide) ?_
              refine lv_irem hx hb dX7_feed_95 (by decide) ?_
              refine lv_topi (fun x_6988 ex_6988 => ?_)
              have hG := hG.trans (lt_eq ex_6988)
              have qx_6988 := ti_rem ex_6988 rfl kc_4 hi0_n_6955.1 (by decide)
              have Qx_6988 := ti_remE ex_6988 rfl kc_4 hi0_n_6955.1 (by decide)
              refine lv_imul hx hb dX7_feed_96 ?_
              refine lv_topi (fun x_6989 ex_6989 => ?_)
              have hG := hG.trans (lt_eq ex_6989)
              have vx_6989 : x_6989.toInt = 8 * x_6988.toInt := ti_mul ex_6989 kc_8 rfl (om_894b99c2 qx_6988.1) (om_626b9a18 qx_6988.2.1)
              refine lv_isub hx hb dX7_feed_97 ?_
              refine lv_topi (fun x_6990 ex_6990 => ?_)
              have hG := hG.trans (lt_eq ex_6990)
              have vx_6990 : x_6990.toInt = (-8) * x_6988.toInt + 24 := om_152fbd22 (ti_sub ex_6990 kc_24 vx_6989 (om_aa692474 qx_6988.2.1) (om_bd3e8f22 qx_6988.1))
              refine lv_ishr hx hb dX7_feed_98 ?_
              refine lv_topi (fun x_6991 ex_6991 => ?_)
              have hG := hG.trans (lt_eq ex_6991)
              refine lv_sipush (v := 255) hx hb dX7_feed_99 (by decide) ?_
              refine lv_iand hx hb dX7_feed_102 ?_
              refine lv_topi (fun x_6992 ex_6992 => ?_)
              have hG := hG.trans (lt_eq ex_6992)
              refine va_iast hx hb hK hP hD hS 1 0 rfl rfl (ti_in rfl b_z_6953.1 (om_53efa0b0 gc_6951 hi1_n_6955 gc_6956)) dX7_feed_103 (fun H locs hP hD hS => ?_)
              obtain ⟨f_6994, ef_6994⟩ : ∃ g : Nat → Int32, g = upd f_6954 z_6953.toNatClampNeg x_6992 := ⟨_, rfl⟩
              rw [← ef_6994] at hP hD
              have hG := hG.trans (lt_eq ef_6994)
              obtain ⟨hP, hD⟩ := wl2 (ws' := [(oc7 oM 0 rM_tape z_6953 iM_size iM_at iM_end iM_token iM_whole iM_nameSize iM_fault iM_place iM_trouble rM_letters iM_failed iM_hasCourt rM_r rM_fresh rM_told rM_read rM_st rM_undone rM_kept iM_undos iM_images rM_fresher iM_fresherSize iM_scale iM_night rM_heardRow rM_cutRow iM_breaths iM_cutMany iM_allBreaths rM_trial rM_words iM_fewestBreaths iM_orderMany iM_orderSum iM_leastOrder rM_often iM_setMany iM_someOf iM_allOf iM_allWeight iM_enoughWeight iM_worthSum iM_firstRest iM_leastDrawn), (arI rM_tape kM_tape 900 f_6994)]) hP hD rfl
              refine lv_aload_n hx hb dX7_feed_104 rfl (lv_at hl 2 rfl) ?_
              refine lv_dup hx hb dX7_feed_105 rfl ?_
              refine va_get (D := (dC, dI)) (ci := 7) (v := .int z_6953) (C := RX7) (T := TX7) (N := 48) hx hb hts inX7 hown hK hP 0 rfl rfl 2 (by decide) (hts _ wd_185) (fun _ h9 => h9) rfl dX7_feed_106 ?_
              refine lv_iconst (v := 1) hx hb dX7_feed_109 (by decide) ?_
              refine lv_iadd hx hb dX7_feed_110 ?_
              refine lv_topi (fun x_6995 ex_6995 => ?_)
              have hG := hG.trans (lt_eq ex_6995)
              have vx_6995 : x_6995.toInt = z_6953.toInt + 1 := ti_add ex_6995 rfl kc_1 (om_4e4fce7e b_z_6953.1) (om_a4907767 b_z_6953.2)
              refine va_put (D := (dC, dI)) (ci := 7) (v := .int x_6995) (ty := .int) (C := RX7) (T := TX7) (N := 48) hx hb hts inX7 tyX7 tyX7_ok nmX7 hown hK hP hD hS 0 rfl rfl 2 (by decide) (hts _ wd_185) (fun _ h9 => h9) rfl (by decide +kernel) rfl rfl (Nat.le_of_ble_eq_true rfl) dX7_feed_111 (fun H locs hP hD hS => ?_)
              obtain ⟨hP, hD⟩ := wl2 (ws' := [(oc7 oM 0 rM_tape x_6995 iM_size iM_at iM_end iM_token iM_whole iM_nameSize iM_fault iM_place iM_trouble rM_letters iM_failed iM_hasCourt rM_r rM_fresh rM_told rM_read rM_st rM_undone rM_kept iM_undos iM_images rM_fresher iM_fresherSize iM_scale iM_night rM_heardRow rM_cutRow iM_breaths iM_cutMany iM_allBreaths rM_trial rM_words iM_fewestBreaths iM_orderMany iM_orderSum iM_leastOrder rM_often iM_setMany iM_someOf iM_allOf iM_allWeight iM_enoughWeight iM_worthSum iM_firstRest iM_leastDrawn), (arI rM_tape kM_tape 900 f_6994)]) hP hD rfl
              obtain ⟨x_6996, ex_6996⟩ : ∃ z : Int32, z = z_6952 + Int32.ofInt 1 := ⟨_, rfl⟩
              have hG := hG.trans (lt_eq ex_6996)
              have vx_6996 : x_6996.toInt = z_6952.toInt + 1 := ti_add (y := 1) ex_6996 rfl kc_1 (om_4e4fce7e hi0_n_6955.1) (om_575634be hi0_n_6955.2)
              refine lv_iinc (v := x_6996) (lv' := [(6, .int x_6996), (7, .int p1), (0, .ref oM), (1, .int p0), (2, .int p1), (3, .int p2), (4, .int p3), (5, .int p4)]) hx hb dX7_feed_114 hl (k := 1) rfl ex_6996.symm (by decide) rfl (fun ls hl => ?_)
              refine lv_goto (tgt := 23) hx hb dX7_feed_117 (by decide) ?_
              exact ih_n_6955 x_6996 x_6995 f_6994 _ _ _ ⟨(om_83b90de5 b_z_6953.1 vx_6995), (om_80749fdb gc_6951 hi1_n_6955 gc_6956 vx_6995)⟩ ⟨(om_83b90de5 hi0_n_6955.1 vx_6996), (om_63cf9d31 gc_6956 vx_6996)⟩ (om_14f5635e hi1_n_6955 vx_6995 vx_6996) (ms_lt hm_n_6955 (om_91c3f935 vx_6996) (om_49eecdc2 gc_6956)) hG hP hD hS (lv_sub hl [0, 2, 3, 4, 5, 6, 7] rfl)
          · skip
            have hG := hG.trans (if_neg c_6957)
            have gc_6957 := ti_nle c_6957 kc_4 rfl
            refine lv_iload_n hx hb dX7_feed_36 rfl (lv_at hl 2 rfl) ?_
            refine lv_goto (tgt := 76) hx hb dX7_feed_37 (by decide) ?_
            refine lv_istore (lv' := [(7, .int p0), (6, .int z_6952), (0, .ref oM), (1, .int p0), (2, .int p1), (3, .int p2), (4, .int p3), (5, .int p4)]) hx hb dX7_feed_76 hl (by decide) rfl (fun ls hl => ?_)
            refine lv_aload_n hx hb dX7_feed_78 rfl (lv_at hl 2 rfl) ?_
            refine va_get (D := (dC, dI)) (ci := 7) (v := .ref rM_tape) (C := RX7) (T := TX7) (N := 48) hx hb hts inX7 hown hK hP 0 rfl rfl 1 (by decide) (hts _ wd_152) (fun _ h9 => h9) rfl dX7_feed_79 ?_
            refine lv_aload_n hx hb dX7_feed_82 rfl (lv_at hl 2 rfl) ?_
            refine va_get (D := (dC, dI)) (ci := 7) (v := .int z_6953) (C := RX7) (T := TX7) (N := 48) hx hb hts inX7 hown hK hP 0 rfl rfl 2 (by decide) (hts _ wd_185) (fun _ h9 => h9) rfl dX7_feed_83 ?_
            refine lv_iload hx hb dX7_feed_86 (lv_at hl 0 rfl) ?_
            refine lv_bipush (v := 24) hx hb dX7_feed_88 (by decide) ?_
            refine lv_bipush (v := 8) hx hb dX7_feed_90 (by decide) ?_
            refine lv_iload hx hb dX7_feed_92 (lv_at hl 1 rfl) ?_
            refine lv_iconst (v := 4) hx hb dX7_feed_94 (by decide) ?_
            refine lv_irem hx hb dX7_feed_95 (by decide) ?_
            refine lv_topi (fun x_6997 ex_6997 => ?_)
            have hG := hG.trans (lt_eq ex_6997)
            have qx_6997 := ti_rem ex_6997 rfl kc_4 hi0_n_6955.1 (by decide)
            have Qx_6997 := ti_remE ex_6997 rfl kc_4 hi0_n_6955.1 (by decide)
            refine lv_imul hx hb dX7_feed_96 ?_
            refine lv_topi (fun x_6998 ex_6998 => ?_)
            have hG := hG.trans (lt_eq ex_6998)
            have vx_6998 : x_6998.toInt = 8 * x_6997.toInt := ti_mul ex_6998 kc_8 rfl (om_894b99c2 qx_6997.1) (om_626b9a18 qx_6997.2.1)
            refine lv_isub hx hb dX7_feed_97 ?_
            refine lv_topi (fun x_6999 ex_6999 => ?_)
            have hG := hG.trans (lt_eq ex_6999)
            have vx_6999 : x_6999.toInt = (-8) * x_6997.toInt + 24 := om_152fbd22 (ti_sub ex_6999 kc_24 vx_6998 (om_aa692474 qx_6997.2.1) (om_bd3e8f22 qx_6997.1))
            refine lv_ishr hx hb dX7_feed_98 ?_
            refine lv_topi (fun x_7000 ex_7000 => ?_)
            have hG := hG.trans (lt_eq ex_7000)
            refine lv_sipush (v := 255) hx hb dX7_feed_99 (by decide) ?_
            refine lv_iand hx hb dX7_feed_102 ?_
            refine lv_topi (fun x_7001 ex_7001 => ?_)
            have hG := hG.trans (lt_eq ex_7001)
            refine va_iast hx hb hK hP hD hS 1 0 rfl rfl (ti_in rfl b_z_6953.1 (om_53efa0b0 gc_6951 hi1_n_6955 gc_6956)) dX7_feed_103 (fun H locs hP hD hS => ?_)
            obtain ⟨f_7003, ef_7003⟩ : ∃ g : Nat → Int32, g = upd f_6954 z_6953.toNatClampNeg x_7001 := ⟨_, rfl⟩
            rw [← ef_7003] at hP hD
            have hG := hG.trans (lt_eq ef_7003)
            obtain ⟨hP, hD⟩ := wl2 (ws' := [(oc7 oM 0 rM_tape z_6953 iM_size iM_at iM_end iM_token iM_whole iM_nameSize iM_fault iM_place iM_trouble rM_letters iM_failed iM_hasCourt rM_r rM_fresh rM_told rM_read rM_st rM_undone rM_kept iM_undos iM_images rM_fresher iM_fresherSize iM_scale iM_night rM_heardRow rM_cutRow iM_breaths iM_cutMany iM_allBreaths rM_trial rM_words iM_fewestBreaths iM_orderMany iM_orderSum iM_leastOrder rM_often iM_setMany iM_someOf iM_allOf iM_allWeight iM_enoughWeight iM_worthSum iM_firstRest iM_leastDrawn), (arI rM_tape kM_tape 900 f_7003)]) hP hD rfl
            refine lv_aload_n hx hb dX7_feed_104 rfl (lv_at hl 2 rfl) ?_
            refine lv_dup hx hb dX7_feed_105 rfl ?_
            refine va_get (D := (dC, dI)) (ci := 7) (v := .int z_6953) (C := RX7) (T := TX7) (N := 48) hx hb hts inX7 hown hK hP 0 rfl rfl 2 (by decide) (hts _ wd_185) (fun _ h9 => h9) rfl dX7_feed_106 ?_
            refine lv_iconst (v := 1) hx hb dX7_feed_109 (by decide) ?_
            refine lv_iadd hx hb dX7_feed_110 ?_
            refine lv_topi (fun x_7004 ex_7004 => ?_)
            have hG := hG.trans (lt_eq ex_7004)
            have vx_7004 : x_7004.toInt = z_6953.toInt + 1 := ti_add ex_7004 rfl kc_1 (om_4e4fce7e b_z_6953.1) (om_a4907767 b_z_6953.2)
            refine va_put (D := (dC, dI)) (ci := 7) (v := .int x_7004) (ty := .int) (C := RX7) (T := TX7) (N := 48) hx hb hts inX7 tyX7 tyX7_ok nmX7 hown hK hP hD hS 0 rfl rfl 2 (by decide) (hts _ wd_185) (fun _ h9 => h9) rfl (by decide +kernel) rfl rfl (Nat.le_of_ble_eq_true rfl) dX7_feed_111 (fun H locs hP hD hS => ?_)
            obtain ⟨hP, hD⟩ := wl2 (ws' := [(oc7 oM 0 rM_tape x_7004 iM_size iM_at iM_end iM_token iM_whole iM_nameSize iM_fault iM_place iM_trouble rM_letters iM_failed iM_hasCourt rM_r rM_fresh rM_told rM_read rM_st rM_undone rM_kept iM_undos iM_images rM_fresher iM_fresherSize iM_scale iM_night rM_heardRow rM_cutRow iM_breaths iM_cutMany iM_allBreaths rM_trial rM_words iM_fewestBreaths iM_orderMany iM_orderSum iM_leastOrder rM_often iM_setMany iM_someOf iM_allOf iM_allWeight iM_enoughWeight iM_worthSum iM_firstRest iM_leastDrawn), (arI rM_tape kM_tape 900 f_7003)]) hP hD rfl
            obtain ⟨x_7005, ex_7005⟩ : ∃ z : Int32, z = z_6952 + Int32.ofInt 1 := ⟨_, rfl⟩
            have hG := hG.trans (lt_eq ex_7005)
            have vx_7005 : x_7005.toInt = z_6952.toInt + 1 := ti_add (y := 1) ex_7005 rfl kc_1 (om_4e4fce7e hi0_n_6955.1) (om_575634be hi0_n_6955.2)
            refine lv_iinc (v := x_7005) (lv' := [(6, .int x_7005), (7, .int p0), (0, .ref oM), (1, .int p0), (2, .int p1), (3, .int p2), (4, .int p3), (5, .int p4)]) hx hb dX7_feed_114 hl (k := 1) rfl ex_7005.symm (by decide) rfl (fun ls hl => ?_)
            refine lv_goto (tgt := 23) hx hb dX7_feed_117 (by decide) ?_
            exact ih_n_6955 x_7005 x_7004 f_7003 _ _ _ ⟨(om_83b90de5 b_z_6953.1 vx_7004), (om_80749fdb gc_6951 hi1_n_6955 gc_6956 vx_7004)⟩ ⟨(om_83b90de5 hi0_n_6955.1 vx_7005), (om_63cf9d31 gc_6956 vx_7005)⟩ (om_14f5635e hi1_n_6955 vx_7004 vx_7005) (ms_lt hm_n_6955 (om_91c3f935 vx_7005) (om_49eecdc2 gc_6956)) hG hP hD hS (lv_sub hl [0, 2, 3, 4, 5, 6, 7] rfl)
    exact key_n_6955 (((20 - (0 : Int32).toInt).toNat) + 1) 0 iM_taped fM_tape _ _ _ ⟨b_iM_taped.1, b_iM_taped.2⟩ ⟨(om_b1de7dbe kc_0), (om_347b8f70 kc_0)⟩ (om_ed03f020 kc_0) (Nat.lt_add_one _) hG hP hD hS hl
  · skip
    have hG := hG.trans (if_neg c_6951)
    have gc_6951 := ti_nle c_6951 vx_6950 kc_900
    refine lv_iconst (v := (-1)) hx hb dX7_feed_18 (by decide) ?_
    exact wq_i hx hb hr (cI (-1)) ⟨⟨trivial, (by have q := kc_m1; first | omega | assumption)⟩, (cI_of (-1))⟩ (fun t ht hW => ⟨0, iM_taped, fM_tape, (by decide), ⟨b_iM_taped.1, b_iM_taped.2⟩, (by have q0 := kc_0; omega), (cI_tup hG), Bw.to hP hD hK ht hW⟩) hS dX7_feed_19 hlocks
set_option maxHeartbeats 4000000 in
set_option maxRecDepth 100000 in
theorem tX7_best (l : Launch) (dC : Nat → ClassId) (dI : Nat → Nat → Nat) (sz : Nat) (oM : Nat) (iM_thrown : Int32) (rM_tape : Nat) (iM_taped : Int32) (iM_size : Int32) (iM_at : Int32) (iM_end : Int32) (iM_token : Int32) (iM_whole : Int32) (iM_nameSize : Int32) (iM_fault : Int32) (iM_place : Int32) (iM_trouble : Int32) (rM_letters : Nat) (iM_failed : Int32) (iM_hasCourt : Int32) (rM_r : Nat) (fM_r : Nat → Int32) (kM_r : ClassId) (rM_fresh : Nat) (rM_told : Nat) (fM_told : Nat → Int32) (kM_told : ClassId) (rM_read : Nat) (rM_st : Nat) (fM_st : Nat → Int32) (kM_st : ClassId) (rM_undone : Nat) (rM_kept : Nat) (iM_undos : Int32) (iM_images : Int32) (rM_fresher : Nat) (iM_fresherSize : Int32) (iM_scale : Int32) (iM_night : Int32) (rM_heardRow : Nat) (rM_cutRow : Nat) (iM_breaths : Int32) (iM_cutMany : Int32) (iM_allBreaths : Int32) (rM_trial : Nat) (rM_words : Nat) (iM_fewestBreaths : Int32) (iM_orderMany : Int32) (iM_orderSum : Int32) (iM_leastOrder : Int32) (rM_often : Nat) (iM_setMany : Int32) (iM_someOf : Int32) (iM_allOf : Int32) (iM_allWeight : Int64) (iM_enoughWeight : Int64) (iM_worthSum : Int64) (iM_firstRest : Int32) (iM_leastDrawn : Int32) (p0 : Int32) (b_iM_taped : 0 ≤ iM_taped.toInt ∧ iM_taped.toInt ≤ 900) (b_iM_size : 0 ≤ iM_size.toInt ∧ iM_size.toInt ≤ 900) (b_iM_end : 0 ≤ iM_end.toInt ∧ iM_end.toInt ≤ 900) (b_iM_failed : 0 ≤ iM_failed.toInt ∧ iM_failed.toInt ≤ 1) (b_iM_hasCourt : 0 ≤ iM_hasCourt.toInt ∧ iM_hasCourt.toInt ≤ 1) (b_iM_undos : 0 ≤ iM_undos.toInt ∧ iM_undos.toInt ≤ 16) (b_iM_images : 0 ≤ iM_images.toInt ∧ iM_images.toInt ≤ 3) (b_iM_scale : 1 ≤ iM_scale.toInt ∧ iM_scale.toInt ≤ 1296) (b_iM_breaths : 0 ≤ iM_breaths.toInt ∧ iM_breaths.toInt ≤ 399) (b_iM_cutMany : 0 ≤ iM_cutMany.toInt ∧ iM_cutMany.toInt ≤ 399) (r_R : ROk fM_r) (r_C : iM_hasCourt.toInt ≤ 0 ∨ (1 ≤ (fM_r 1).toInt ∧ 0 ≤ (fM_r 6).toInt ∧ (fM_r 6).toInt < (fM_r 1).toInt)) (r_st : RowOk fM_r fM_st) (r_told : RowOk fM_r fM_told) (r_wst : WorOk fM_st) (hnt : iM_night.toInt = -1) : Met l yX7_best (Cond.code yX7_best cX7_best 2 (some .int) :: wG) ({ frames := 22, cells := 0, slots := 0, locals := 586 }) (va_Pc [.ref oM, .int p0] (Pw dC dI sz [(oc7 oM iM_thrown rM_tape iM_taped iM_size iM_at iM_end iM_token iM_whole iM_nameSize iM_fault iM_place iM_trouble rM_letters iM_failed iM_hasCourt rM_r rM_fresh rM_told rM_read rM_st rM_undone rM_kept iM_undos iM_images rM_fresher iM_fresherSize iM_scale iM_night rM_heardRow rM_cutRow iM_breaths iM_cutMany iM_allBreaths rM_trial rM_words iM_fewestBreaths iM_orderMany iM_orderSum iM_leastOrder rM_often iM_setMany iM_someOf iM_allOf iM_allWeight iM_enoughWeight iM_worthSum iM_firstRest iM_leastDrawn), (arI rM_r kM_r 287 fM_r), (arI rM_told kM_told 90 fM_told), (arI rM_st kM_st 90 fM_st)] [(kM_r, .int), (kM_told, .int), (kM_st, .int)])) (va_Qi (fun (r : Int32) (u : Nat) => (True ∧ True) ∧ r = Int32.ofNat u) (fun (u : Nat) (t : State) => ∃ (niM_thrown : Int32) (niM_trouble : Int32), (PX7_best iM_hasCourt fM_r fM_told fM_st iM_scale iM_night p0 = (Int32.ofNat u, niM_thrown, niM_trouble)) ∧ Bw dC dI (va_A [(oc7 oM iM_thrown rM_tape iM_taped iM_size iM_at iM_end iM_token iM_whole iM_nameSize iM_fault iM_place iM_trouble rM_letters iM_failed iM_hasCourt rM_r rM_fresh rM_told rM_read rM_st rM_undone rM_kept iM_undos iM_images rM_fresher iM_fresherSize iM_scale iM_night rM_heardRow rM_cutRow iM_breaths iM_cutMany iM_allBreaths rM_trial rM_words iM_fewestBreaths iM_orderMany iM_orderSum iM_leastOrder rM_often iM_setMany iM_someOf iM_allOf iM_allWeight iM_enoughWeight iM_worthSum iM_firstRest iM_leastDrawn), (arI rM_r kM_r 287 fM_r), (arI rM_told kM_told 90 fM_told), (arI rM_st kM_st 90 fM_st)] sz) [(oc7 oM niM_thrown rM_tape iM_taped iM_size iM_at iM_end iM_token iM_whole iM_nameSize iM_fault iM_place niM_trouble rM_letters iM_failed iM_hasCourt rM_r rM_fresh rM_told rM_read rM_st rM_undone rM_kept iM_undos iM_images rM_fresher iM_fresherSize iM_scale iM_night rM_heardRow rM_cutRow iM_breaths iM_cutMany iM_allBreaths rM_trial rM_words iM_fewestBreaths iM_orderMany iM_orderSum iM_leastOrder rM_often iM_setMany iM_someOf iM_allOf iM_allWeight iM_enoughWeight iM_worthSum iM_firstRest iM_leastDrawn), (arI rM_r kM_r 287 fM_r), (arI rM_told kM_told 90 fM_told), (arI rM_st kM_st 90 fM_st)] [(kM_r, .int), (kM_told, .int), (kM_st, .int)] t) (va_A [(oc7 oM iM_thrown rM_tape iM_taped iM_size iM_at iM_end iM_token iM_whole iM_nameSize iM_fault iM_place iM_trouble rM_letters iM_failed iM_hasCourt rM_r rM_fresh rM_told rM_read rM_st rM_undone rM_kept iM_undos iM_images rM_fresher iM_fresherSize iM_scale iM_night rM_heardRow rM_cutRow iM_breaths iM_cutMany iM_allBreaths rM_trial rM_words iM_fewestBreaths iM_orderMany iM_orderSum iM_leastOrder rM_often iM_setMany iM_someOf iM_allOf iM_allWeight iM_enoughWeight iM_worthSum iM_firstRest iM_leastDrawn), (arI rM_r kM_r 287 fM_r), (arI rM_told kM_told 90 fM_told), (arI rM_st kM_st 90 fM_st)] sz)) 0 0 (va_A [(oc7 oM iM_thrown rM_tape iM_taped iM_size iM_at iM_end iM_token iM_whole iM_nameSize iM_fault iM_place iM_trouble rM_letters iM_failed iM_hasCourt rM_r rM_fresh rM_told rM_read rM_st rM_undone rM_kept iM_undos iM_images rM_fresher iM_fresherSize iM_scale iM_night rM_heardRow rM_cutRow iM_breaths iM_cutMany iM_allBreaths rM_trial rM_words iM_fewestBreaths iM_orderMany iM_orderSum iM_leastOrder rM_often iM_setMany iM_someOf iM_allOf iM_allWeight iM_enoughWeight iM_worthSum iM_firstRest iM_leastDrawn), (arI rM_r kM_r 287 fM_r), (arI rM_told kM_told 90 fM_told), (arI rM_st kM_st 90 fM_st)] sz) := by
  refine Met.ofW (cc := cX7_best) (maxL := 2) (ret := (some .int)) pnX7 rfl ?_
  intro p e s m args below meth c s₁ B hml hv
  obtain ⟨rfl, hsz, hP, hK, hD0, hE⟩ := hv
  have hx := B.exec
  have hb := B.bytes
  have hr := B.returns
  have hts : ∀ w ∈ wG, w.before ([.ref oM, .int p0] : List Value).toArray s = true := fun w h => atoms_spec (ws := Cond.code yX7_best cX7_best 2 (some .int) :: wG) B.pre w (List.mem_cons_of_mem _ h)
  have hown : s.vm.findClass RX7 = some m.cls := own_of B.named rfl
  have hlocks := B.notSynchronized
  subst hsz
  have hD := hD0.self (sz := s.heap.size)
  generalize hAe : va_A [(oc7 oM iM_thrown rM_tape iM_taped iM_size iM_at iM_end iM_token iM_whole iM_nameSize iM_fault iM_place iM_trouble rM_letters iM_failed iM_hasCourt rM_r rM_fresh rM_told rM_read rM_st rM_undone rM_kept iM_undos iM_images rM_fresher iM_fresherSize iM_scale iM_night rM_heardRow rM_cutRow iM_breaths iM_cutMany iM_allBreaths rM_trial rM_words iM_fewestBreaths iM_orderMany iM_orderSum iM_leastOrder rM_often iM_setMany iM_someOf iM_allOf iM_allWeight iM_enoughWeight iM_worthSum iM_firstRest iM_leastDrawn), (arI rM_r kM_r 287 fM_r), (arI rM_told kM_told 90 fM_told), (arI rM_st kM_st 90 fM_st)] s.heap.size = A at hD hE ⊢
  have hA : ∀ q : Nat, s.heap.size ≤ q → A q := fun q h => by rw [← hAe]; exact Or.inr h
  have hS : va_S A s.heap s.heap [] := va_S.rf
  have hl := lv_entry ([.ref oM, .int p0]) (n := 2) (Nat.le_of_ble_eq_true rfl)
  rw [lg_entry_eq]
  generalize (lg_sl ([.ref oM, .int p0]) ++ List.replicate (2 - (lg_sl ([.ref oM, .int p0])).length) Slot.unset).toArray = ls at hl ⊢
  have hl : lv_has ls 2 [(0, .ref oM), (1, .int p0)] := hl
  have hG := PX7_best_eq iM_hasCourt fM_r fM_told fM_st iM_scale iM_night p0
  have s_slips := r_R.slips
  have s_nodes := r_R.nodes
  have s_uns := r_R.uns
  refine lv_aload_n hx hb dX7_best_0 rfl (lv_at hl 0 rfl) ?_
  have hMs := ml_of hD [true, false, false, false] (wc := [(oc7 oM iM_thrown rM_tape iM_taped iM_size iM_at iM_end iM_token iM_whole iM_nameSize iM_fault iM_place iM_trouble rM_letters iM_failed iM_hasCourt rM_r rM_fresh rM_told rM_read rM_st rM_undone rM_kept iM_undos iM_images rM_fresher iM_fresherSize iM_scale iM_night rM_heardRow rM_cutRow iM_breaths iM_cutMany iM_allBreaths rM_trial rM_words iM_fewestBreaths iM_orderMany iM_orderSum iM_leastOrder rM_often iM_setMany iM_someOf iM_allOf iM_allWeight iM_enoughWeight iM_worthSum iM_firstRest iM_leastDrawn)]) rfl
  have hFc := va_freeM hD hS hA _ hMs
  refine va_callv (va_runV (As := []) (rest := []) ⟨hx, hb, hml, hown, hts⟩ (tX7_good l dC dI _ oM iM_thrown rM_tape iM_taped iM_size iM_at iM_end iM_token iM_whole iM_nameSize iM_fault iM_place iM_trouble rM_letters iM_failed iM_hasCourt rM_r rM_fresh rM_told rM_read rM_st rM_undone rM_kept iM_undos iM_images rM_fresher iM_fresherSize iM_scale iM_night rM_heardRow rM_cutRow iM_breaths iM_cutMany iM_allBreaths rM_trial rM_words iM_fewestBreaths iM_orderMany iM_orderSum iM_leastOrder rM_often iM_setMany iM_someOf iM_allOf iM_allWeight iM_enoughWeight iM_worthSum iM_firstRest iM_leastDrawn b_iM_taped b_iM_size b_iM_end b_iM_failed b_iM_hasCourt b_iM_undos b_iM_images b_iM_scale b_iM_breaths b_iM_cutMany) (cwV 0 hts (wd_V wd_388 wd_389 wd_390 wd_5 (wd_c wd_391)) rfl rfl rfl dv_yX7_good_0 ⟨Nat.le_of_ble_eq_true rfl, Nat.le_of_ble_eq_true rfl⟩) ⟨Pw.fb, recvX7 hK hP (q0 := 0) rfl, fun U hU hW => Pw.to (hP.ms _ hMs) (hD.ms _ hMs) (hK.ms [false, false, false] rfl) hE hS hFc hU hW⟩ rfl rfl hl.1 rfl (lv_room (Nat.le_of_ble_eq_true rfl)) dX7_best_1 ⟨Nat.le_of_ble_eq_true rfl, Nat.le_of_ble_eq_true rfl⟩) hS (fun q _ h => hFc q h) hFc (fun u t H locs ht hvm hw hB hz1 hk1 hS => ?_)
  refine ex_2_3 hB (fun x_7014 x_7015 b_x_7014 b_x_7015 e_x_7014_0 hB => ?_)
  obtain ⟨hP, hD⟩ := Bw.goN (ws' := [(oc7 oM x_7014 rM_tape iM_taped iM_size iM_at iM_end iM_token iM_whole iM_nameSize iM_fault iM_place x_7015 rM_letters iM_failed iM_hasCourt rM_r rM_fresh rM_told rM_read rM_st rM_undone rM_kept iM_undos iM_images rM_fresher iM_fresherSize iM_scale iM_night rM_heardRow rM_cutRow iM_breaths iM_cutMany iM_allBreaths rM_trial rM_words iM_fewestBreaths iM_orderMany iM_orderSum iM_leastOrder rM_often iM_setMany iM_someOf iM_allOf iM_allWeight iM_enoughWeight iM_worthSum iM_firstRest iM_leastDrawn), (arI rM_r kM_r 287 fM_r), (arI rM_told kM_told 90 fM_told), (arI rM_st kM_st 90 fM_st)]) hB rfl ht hP hD _ hMs hk1 hFc rfl
  clear hz1 hk1 hvm ht hB hMs
  have hG := hG.trans (un2_eq e_x_7014_0)
  refine lv_aload_n hx hb dX7_best_4 rfl (lv_at hl 0 rfl) ?_
  refine lv_iload_n hx hb dX7_best_5 rfl (lv_at hl 1 rfl) ?_
  have hMs := ml_of hD [true, true, false, false] (wc := [(oc7 oM x_7014 rM_tape iM_taped iM_size iM_at iM_end iM_token iM_whole iM_nameSize iM_fault iM_place x_7015 rM_letters iM_failed iM_hasCourt rM_r rM_fresh rM_told rM_read rM_st rM_undone rM_kept iM_undos iM_images rM_fresher iM_fresherSize iM_scale iM_night rM_heardRow rM_cutRow iM_breaths iM_cutMany iM_allBreaths rM_trial rM_words iM_fewestBreaths iM_orderMany iM_orderSum iM_leastOrder rM_often iM_setMany iM_someOf iM_allOf iM_allWeight iM_enoughWeight iM_worthSum iM_firstRest iM_leastDrawn), (arI rM_r kM_r 287 fM_r)]) rfl
  have hFc := va_freeM hD hS hA _ hMs
  refine va_calli (va_runV (As := [.int p0]) (rest := []) ⟨hx, hb, hml, hown, hts⟩ (tX7_isNode l dC dI _ oM x_7014 rM_tape iM_taped iM_size iM_at iM_end iM_token iM_whole iM_nameSize iM_fault iM_place x_7015 rM_letters iM_failed iM_hasCourt rM_r fM_r kM_r rM_fresh rM_told rM_read rM_st rM_undone rM_kept iM_undos iM_images rM_fresher iM_fresherSize iM_scale iM_night rM_heardRow rM_cutRow iM_breaths iM_cutMany iM_allBreaths rM_trial rM_words iM_fewestBreaths iM_orderMany iM_orderSum iM_leastOrder rM_often iM_setMany iM_someOf iM_allOf iM_allWeight iM_enoughWeight iM_worthSum iM_firstRest iM_leastDrawn p0 b_iM_taped b_iM_size b_iM_end b_iM_failed b_iM_hasCourt b_iM_undos b_iM_images b_iM_scale b_iM_breaths b_iM_cutMany (by assumption) (by assumption)) (cwV 1 hts (wd_V wd_544 wd_545 wd_546 wd_5 (wd_c wd_547)) rfl rfl rfl dv_yX7_isNode_1 ⟨Nat.le_of_ble_eq_true rfl, Nat.le_of_ble_eq_true rfl⟩) ⟨Pw.fb, recvX7 hK hP (q0 := 0) rfl, fun U hU hW => Pw.to (hP.ms _ hMs) (hD.ms _ hMs) (hK.ms [true, false, false] rfl) hE hS hFc hU hW⟩ rfl rfl hl.1 rfl (lv_room (Nat.le_of_ble_eq_true rfl)) dX7_best_6 ⟨Nat.le_of_ble_eq_true rfl, Nat.le_of_ble_eq_true rfl⟩) hS (fun q _ h => hFc q h) hFc (fun r u t H locs ht hvm hw hB hz1 hk1 hS => ?_)
  have hru9 := hw.2
  have hw := hw.1
  obtain ⟨hP, hD⟩ := Bw.goN (ws' := [(oc7 oM x_7014 rM_tape iM_taped iM_size iM_at iM_end iM_token iM_whole iM_nameSize iM_fault iM_place x_7015 rM_letters iM_failed iM_hasCourt rM_r rM_fresh rM_told rM_read rM_st rM_undone rM_kept iM_undos iM_images rM_fresher iM_fresherSize iM_scale iM_night rM_heardRow rM_cutRow iM_breaths iM_cutMany iM_allBreaths rM_trial rM_words iM_fewestBreaths iM_orderMany iM_orderSum iM_leastOrder rM_often iM_setMany iM_someOf iM_allOf iM_allWeight iM_enoughWeight iM_worthSum iM_firstRest iM_leastDrawn), (arI rM_r kM_r 287 fM_r), (arI rM_told kM_told 90 fM_told), (arI rM_st kM_st 90 fM_st)]) hB rfl ht hP hD _ hMs hk1 hFc rfl
  clear hz1 hk1 hvm ht hB hMs
  rcases hw.2 with ⟨rfl, hc_7016⟩ | ⟨rfl, hc_7016⟩
  · skip
    have hG := hG.trans (lt_eq hru9.symm)
    have hG := hG.trans (if_pos rfl)
    refine lv_if_eq (tgt := 20) hx hb dX7_best_9 (by decide) (fun c => absurd c (by decide)) (fun _ => ?_)
    refine lv_aload_n hx hb dX7_best_12 rfl (lv_at hl 0 rfl) ?_
    refine lv_iload_n hx hb dX7_best_13 rfl (lv_at hl 1 rfl) ?_
    have hFc := va_freeI hD hS hA
    refine va_calli (va_runV (As := [.int p0]) (rest := []) ⟨hx, hb, hml, hown, hts⟩ (tX7_bestOf l dC dI _ oM x_7014 rM_tape iM_taped iM_size iM_at iM_end iM_token iM_whole iM_nameSize iM_fault iM_place x_7015 rM_letters iM_failed iM_hasCourt rM_r fM_r kM_r rM_fresh rM_told fM_told kM_told rM_read rM_st fM_st kM_st rM_undone rM_kept iM_undos iM_images rM_fresher iM_fresherSize iM_scale iM_night rM_heardRow rM_cutRow iM_breaths iM_cutMany iM_allBreaths rM_trial rM_words iM_fewestBreaths iM_orderMany iM_orderSum iM_leastOrder rM_often iM_setMany iM_someOf iM_allOf iM_allWeight iM_enoughWeight iM_worthSum iM_firstRest iM_leastDrawn p0 b_iM_taped b_iM_size b_iM_end b_iM_failed b_iM_hasCourt b_iM_undos b_iM_images b_iM_scale b_iM_breaths b_iM_cutMany (by assumption) (by assumption) (by assumption) (by assumption) (by assumption) ⟨hc_7016.1, hc_7016.2.1⟩ hnt) (cwV 1 hts (wd_V wd_670 wd_671 wd_672 wd_5 (wd_c wd_673)) rfl rfl rfl dv_yX7_bestOf_1 ⟨Nat.le_of_ble_eq_true rfl, Nat.le_of_ble_eq_true rfl⟩) ⟨Pw.fb, recvX7 hK hP (q0 := 0) rfl, fun U hU hW => Pw.to hP hD hK hE hS hFc hU hW⟩ rfl rfl hl.1 rfl (lv_room (Nat.le_of_ble_eq_true rfl)) dX7_best_14 ⟨Nat.le_of_ble_eq_true rfl, Nat.le_of_ble_eq_true rfl⟩) hS (fun q _ h => hFc q h) hFc (fun r u t H locs ht hvm hw hB hz1 hk1 hS => ?_)
    have hru9 := hw.2
    have hw := hw.1
    obtain ⟨hP, hD⟩ := Bw.goA (ws' := [(oc7 oM x_7014 rM_tape iM_taped iM_size iM_at iM_end iM_token iM_whole iM_nameSize iM_fault iM_place x_7015 rM_letters iM_failed iM_hasCourt rM_r rM_fresh rM_told rM_read rM_st rM_undone rM_kept iM_undos iM_images rM_fresher iM_fresherSize iM_scale iM_night rM_heardRow rM_cutRow iM_breaths iM_cutMany iM_allBreaths rM_trial rM_words iM_fewestBreaths iM_orderMany iM_orderSum iM_leastOrder rM_often iM_setMany iM_someOf iM_allOf iM_allWeight iM_enoughWeight iM_worthSum iM_firstRest iM_leastDrawn), (arI rM_r kM_r 287 fM_r), (arI rM_told kM_told 90 fM_told), (arI rM_st kM_st 90 fM_st)]) hB rfl ht hFc rfl
    clear hz1 hk1 hvm ht hB
    obtain ⟨x_7019, rfl⟩ : ∃ z, z = r := ⟨_, rfl⟩
    have hG := hG.trans (lt_eq hru9.symm)
    have lx_7019 := hw.2
    have ux_7019 := hw.2
    refine lv_goto (tgt := 25) hx hb dX7_best_17 (by decide) ?_
    exact wq_i hx hb hr (cI x_7019) ⟨⟨trivial, trivial⟩, (cI_of x_7019)⟩ (fun t ht hW => ⟨x_7014, x_7015, (cI_tup hG), Bw.to hP hD hK ht hW⟩) hS dX7_best_25 hlocks
  · skip
    have hG := hG.trans (lt_eq hru9.symm)
    have hG := hG.trans (if_neg (by decide))
    refine lv_if_eq (tgt := 20) hx hb dX7_best_9 (by decide) (fun _ => ?_) (fun c => absurd c (by decide))
    refine lv_aload_n hx hb dX7_best_20 rfl (lv_at hl 0 rfl) ?_
    refine lv_iconst (v := 1) hx hb dX7_best_21 (by decide) ?_
    have hMs := ml_of hD [true, false, false, false] (wc := [(oc7 oM x_7014 rM_tape iM_taped iM_size iM_at iM_end iM_token iM_whole iM_nameSize iM_fault iM_place x_7015 rM_letters iM_failed iM_hasCourt rM_r rM_fresh rM_told rM_read rM_st rM_undone rM_kept iM_undos iM_images rM_fresher iM_fresherSize iM_scale iM_night rM_heardRow rM_cutRow iM_breaths iM_cutMany iM_allBreaths rM_trial rM_words iM_fewestBreaths iM_orderMany iM_orderSum iM_leastOrder rM_often iM_setMany iM_someOf iM_allOf iM_allWeight iM_enoughWeight iM_worthSum iM_firstRest iM_leastDrawn)]) rfl
    have hFc := va_freeM hD hS hA _ hMs
    refine va_calli (va_runV (As := [.int 1]) (rest := []) ⟨hx, hb, hml, hown, hts⟩ (tX7_no l dC dI _ oM x_7014 rM_tape iM_taped iM_size iM_at iM_end iM_token iM_whole iM_nameSize iM_fault iM_place x_7015 rM_letters iM_failed iM_hasCourt rM_r rM_fresh rM_told rM_read rM_st rM_undone rM_kept iM_undos iM_images rM_fresher iM_fresherSize iM_scale iM_night rM_heardRow rM_cutRow iM_breaths iM_cutMany iM_allBreaths rM_trial rM_words iM_fewestBreaths iM_orderMany iM_orderSum iM_leastOrder rM_often iM_setMany iM_someOf iM_allOf iM_allWeight iM_enoughWeight iM_worthSum iM_firstRest iM_leastDrawn 1 b_iM_taped b_iM_size b_iM_end b_iM_failed b_iM_hasCourt b_iM_undos b_iM_images b_iM_scale b_iM_breaths b_iM_cutMany) (cwV 1 hts (wd_V wd_396 wd_397 wd_398 wd_5 (wd_c wd_399)) rfl rfl rfl dv_yX7_no_1 ⟨Nat.le_of_ble_eq_true rfl, Nat.le_of_ble_eq_true rfl⟩) ⟨Pw.fb, recvX7 hK hP (q0 := 0) rfl, fun U hU hW => Pw.to (hP.ms _ hMs) (hD.ms _ hMs) (hK.ms [false, false, false] rfl) hE hS hFc hU hW⟩ rfl rfl hl.1 rfl (lv_room (Nat.le_of_ble_eq_true rfl)) dX7_best_22 ⟨Nat.le_of_ble_eq_true rfl, Nat.le_of_ble_eq_true rfl⟩) hS (fun q _ h => hFc q h) hFc (fun r u t H locs ht hvm hw hB hz1 hk1 hS => ?_)
    have hru9 := hw.2
    have hw := hw.1
    refine ex_1_1 hB (fun x_7021 e_x_7021_0 hB => ?_)
    obtain ⟨hP, hD⟩ := Bw.goN (ws' := [(oc7 oM x_7014 rM_tape iM_taped iM_size iM_at iM_end iM_token iM_whole iM_nameSize iM_fault iM_place x_7021 rM_letters iM_failed iM_hasCourt rM_r rM_fresh rM_told rM_read rM_st rM_undone rM_kept iM_undos iM_images rM_fresher iM_fresherSize iM_scale iM_night rM_heardRow rM_cutRow iM_breaths iM_cutMany iM_allBreaths rM_trial rM_words iM_fewestBreaths iM_orderMany iM_orderSum iM_leastOrder rM_often iM_setMany iM_someOf iM_allOf iM_allWeight iM_enoughWeight iM_worthSum iM_firstRest iM_leastDrawn), (arI rM_r kM_r 287 fM_r), (arI rM_told kM_told 90 fM_told), (arI rM_st kM_st 90 fM_st)]) hB rfl ht hP hD _ hMs hk1 hFc rfl
    clear hz1 hk1 hvm ht hB hMs
    rw [← hru9] at e_x_7021_0
    obtain ⟨x_7022, rfl⟩ : ∃ z, z = r := ⟨_, rfl⟩
    have hG := hG.trans (un2_eq e_x_7021_0)
    exact wq_i hx hb hr (cI x_7022) ⟨⟨trivial, trivial⟩, (cI_of x_7022)⟩ (fun t ht hW => ⟨x_7014, x_7021, (cI_tup hG), Bw.to hP hD hK ht hW⟩) hS dX7_best_25 hlocks
set_option maxHeartbeats 4000000 in
set_option maxRecDepth 100000 in
theorem tX7_line (l : Launch) (dC : Nat → ClassId) (dI : Nat → Nat → Nat) (sz : Nat) (oM : Nat) (iM_thrown : Int32) (rM_tape : Nat) (iM_taped : Int32) (iM_size : Int32) (iM_at : Int32) (iM_end : Int32) (iM_token : Int32) (iM_whole : Int32) (iM_nameSize : Int32) (iM_fault : Int32) (iM_place : Int32) (iM_trouble : Int32) (rM_letters : Nat) (iM_failed : Int32) (iM_hasCourt : Int32) (rM_r : Nat) (fM_r : Nat → Int32) (kM_r : ClassId) (rM_fresh : Nat) (rM_told : Nat) (fM_told : Nat → Int32) (kM_told : ClassId) (rM_read : Nat) (rM_st : Nat) (fM_st : Nat → Int32) (kM_st : ClassId) (rM_undone : Nat) (rM_kept : Nat) (iM_undos : Int32) (iM_images : Int32) (rM_fresher : Nat) (iM_fresherSize : Int32) (iM_scale : Int32) (iM_night : Int32) (rM_heardRow : Nat) (rM_cutRow : Nat) (iM_breaths : Int32) (iM_cutMany : Int32) (iM_allBreaths : Int32) (rM_trial : Nat) (rM_words : Nat) (iM_fewestBreaths : Int32) (iM_orderMany : Int32) (iM_orderSum : Int32) (iM_leastOrder : Int32) (rM_often : Nat) (iM_setMany : Int32) (iM_someOf : Int32) (iM_allOf : Int32) (iM_allWeight : Int64) (iM_enoughWeight : Int64) (iM_worthSum : Int64) (iM_firstRest : Int32) (iM_leastDrawn : Int32) (b_iM_taped : 0 ≤ iM_taped.toInt ∧ iM_taped.toInt ≤ 900) (b_iM_size : 0 ≤ iM_size.toInt ∧ iM_size.toInt ≤ 900) (b_iM_end : 0 ≤ iM_end.toInt ∧ iM_end.toInt ≤ 900) (b_iM_failed : 0 ≤ iM_failed.toInt ∧ iM_failed.toInt ≤ 1) (b_iM_hasCourt : 0 ≤ iM_hasCourt.toInt ∧ iM_hasCourt.toInt ≤ 1) (b_iM_undos : 0 ≤ iM_undos.toInt ∧ iM_undos.toInt ≤ 16) (b_iM_images : 0 ≤ iM_images.toInt ∧ iM_images.toInt ≤ 3) (b_iM_scale : 1 ≤ iM_scale.toInt ∧ iM_scale.toInt ≤ 1296) (b_iM_breaths : 0 ≤ iM_breaths.toInt ∧ iM_breaths.toInt ≤ 399) (b_iM_cutMany : 0 ≤ iM_cutMany.toInt ∧ iM_cutMany.toInt ≤ 399) (r_R : ROk fM_r) (r_C : iM_hasCourt.toInt ≤ 0 ∨ (1 ≤ (fM_r 1).toInt ∧ 0 ≤ (fM_r 6).toInt ∧ (fM_r 6).toInt < (fM_r 1).toInt)) (r_st : RowOk fM_r fM_st) (r_told : RowOk fM_r fM_told) (r_wst : WorOk fM_st) (hnt : iM_night.toInt = -1) : Met l yX7_line (Cond.code yX7_line cX7_line 3 (some .int) :: wG) ({ frames := 22, cells := 0, slots := 0, locals := 586 }) (va_Pc [.ref oM] (Pw dC dI sz [(oc7 oM iM_thrown rM_tape iM_taped iM_size iM_at iM_end iM_token iM_whole iM_nameSize iM_fault iM_place iM_trouble rM_letters iM_failed iM_hasCourt rM_r rM_fresh rM_told rM_read rM_st rM_undone rM_kept iM_undos iM_images rM_fresher iM_fresherSize iM_scale iM_night rM_heardRow rM_cutRow iM_breaths iM_cutMany iM_allBreaths rM_trial rM_words iM_fewestBreaths iM_orderMany iM_orderSum iM_leastOrder rM_often iM_setMany iM_someOf iM_allOf iM_allWeight iM_enoughWeight iM_worthSum iM_firstRest iM_leastDrawn), (arI rM_r kM_r 287 fM_r), (arI rM_told kM_told 90 fM_told), (arI rM_st kM_st 90 fM_st)] [(kM_r, .int), (kM_told, .int), (kM_st, .int)])) (va_Qi (fun (r : Int32) (u : Nat) => (True ∧ True) ∧ r = Int32.ofNat u) (fun (u : Nat) (t : State) => ∃ (niM_thrown : Int32) (niM_trouble : Int32), (PX7_line iM_hasCourt fM_r fM_told fM_st iM_scale iM_night = (Int32.ofNat u, niM_thrown, niM_trouble)) ∧ Bw dC dI (va_A [(oc7 oM iM_thrown rM_tape iM_taped iM_size iM_at iM_end iM_token iM_whole iM_nameSize iM_fault iM_place iM_trouble rM_letters iM_failed iM_hasCourt rM_r rM_fresh rM_told rM_read rM_st rM_undone rM_kept iM_undos iM_images rM_fresher iM_fresherSize iM_scale iM_night rM_heardRow rM_cutRow iM_breaths iM_cutMany iM_allBreaths rM_trial rM_words iM_fewestBreaths iM_orderMany iM_orderSum iM_leastOrder rM_often iM_setMany iM_someOf iM_allOf iM_allWeight iM_enoughWeight iM_worthSum iM_firstRest iM_leastDrawn), (arI rM_r kM_r 287 fM_r), (arI rM_told kM_told 90 fM_told), (arI rM_st kM_st 90 fM_st)] sz) [(oc7 oM niM_thrown rM_tape iM_taped iM_size iM_at iM_end iM_token iM_whole iM_nameSize iM_fault iM_place niM_trouble rM_letters iM_failed iM_hasCourt rM_r rM_fresh rM_told rM_read rM_st rM_undone rM_kept iM_undos iM_images rM_fresher iM_fresherSize iM_scale iM_night rM_heardRow rM_cutRow iM_breaths iM_cutMany iM_allBreaths rM_trial rM_words iM_fewestBreaths iM_orderMany iM_orderSum iM_leastOrder rM_often iM_setMany iM_someOf iM_allOf iM_allWeight iM_enoughWeight iM_worthSum iM_firstRest iM_leastDrawn), (arI rM_r kM_r 287 fM_r), (arI rM_told kM_told 90 fM_told), (arI rM_st kM_st 90 fM_st)] [(kM_r, .int), (kM_told, .int), (kM_st, .int)] t) (va_A [(oc7 oM iM_thrown rM_tape iM_taped iM_size iM_at iM_end iM_token iM_whole iM_nameSize iM_fault iM_place iM_trouble rM_letters iM_failed iM_hasCourt rM_r rM_fresh rM_told rM_read rM_st rM_undone rM_kept iM_undos iM_images rM_fresher iM_fresherSize iM_scale iM_night rM_heardRow rM_cutRow iM_breaths iM_cutMany iM_allBreaths rM_trial rM_words iM_fewestBreaths iM_orderMany iM_orderSum iM_leastOrder rM_often iM_setMany iM_someOf iM_allOf iM_allWeight iM_enoughWeight iM_worthSum iM_firstRest iM_leastDrawn), (arI rM_r kM_r 287 fM_r), (arI rM_told kM_told 90 fM_told), (arI rM_st kM_st 90 fM_st)] sz)) 0 0 (va_A [(oc7 oM iM_thrown rM_tape iM_taped iM_size iM_at iM_end iM_token iM_whole iM_nameSize iM_fault iM_place iM_trouble rM_letters iM_failed iM_hasCourt rM_r rM_fresh rM_told rM_read rM_st rM_undone rM_kept iM_undos iM_images rM_fresher iM_fresherSize iM_scale iM_night rM_heardRow rM_cutRow iM_breaths iM_cutMany iM_allBreaths rM_trial rM_words iM_fewestBreaths iM_orderMany iM_orderSum iM_leastOrder rM_often iM_setMany iM_someOf iM_allOf iM_allWeight iM_enoughWeight iM_worthSum iM_firstRest iM_leastDrawn), (arI rM_r kM_r 287 fM_r), (arI rM_told kM_told 90 fM_told), (arI rM_st kM_st 90 fM_st)] sz) := by
  refine Met.ofW (cc := cX7_line) (maxL := 3) (ret := (some .int)) pnX7 rfl ?_
  intro p e s m args below meth c s₁ B hml hv
  obtain ⟨rfl, hsz, hP, hK, hD0, hE⟩ := hv
  have hx := B.exec
  have hb := B.bytes
  have hr := B.returns
  have hts : ∀ w ∈ wG, w.before ([.ref oM] : List Value).toArray s = true := fun w h => atoms_spec (ws := Cond.code yX7_line cX7_line 3 (some .int) :: wG) B.pre w (List.mem_cons_of_mem _ h)
  have hown : s.vm.findClass RX7 = some m.cls := own_of B.named rfl
  have hlocks := B.notSynchronized
  subst hsz
  have hD := hD0.self (sz := s.heap.size)
  generalize hAe : va_A [(oc7 oM iM_thrown rM_tape iM_taped iM_size iM_at iM_end iM_token iM_whole iM_nameSize iM_fault iM_place iM_trouble rM_letters iM_failed iM_hasCourt rM_r rM_fresh rM_told rM_read rM_st rM_undone rM_kept iM_undos iM_images rM_fresher iM_fresherSize iM_scale iM_night rM_heardRow rM_cutRow iM_breaths iM_cutMany iM_allBreaths rM_trial rM_words iM_fewestBreaths iM_orderMany iM_orderSum iM_leastOrder rM_often iM_setMany iM_someOf iM_allOf iM_allWeight iM_enoughWeight iM_worthSum iM_firstRest iM_leastDrawn), (arI rM_r kM_r 287 fM_r), (arI rM_told kM_told 90 fM_told), (arI rM_st kM_st 90 fM_st)] s.heap.size = A at hD hE ⊢
  have hA : ∀ q : Nat, s.heap.size ≤ q → A q := fun q h => by rw [← hAe]; exact Or.inr h
  have hS : va_S A s.heap s.heap [] := va_S.rf
  have hl := lv_entry ([.ref oM]) (n := 3) (Nat.le_of_ble_eq_true rfl)
  rw [lg_entry_eq]
  generalize (lg_sl ([.ref oM]) ++ List.replicate (3 - (lg_sl ([.ref oM])).length) Slot.unset).toArray = ls at hl ⊢
  have hl : lv_has ls 3 [(0, .ref oM)] := hl
  have hG := PX7_line_eq iM_hasCourt fM_r fM_told fM_st iM_scale iM_night
  have s_slips := r_R.slips
  have s_nodes := r_R.nodes
  have s_uns := r_R.uns
  refine lv_aload_n hx hb dX7_line_0 rfl (lv_at hl 0 rfl) ?_
  have hMs := ml_of hD [true, false, false, false] (wc := [(oc7 oM iM_thrown rM_tape iM_taped iM_size iM_at iM_end iM_token iM_whole iM_nameSize iM_fault iM_place iM_trouble rM_letters iM_failed iM_hasCourt rM_r rM_fresh rM_told rM_read rM_st rM_undone rM_kept iM_undos iM_images rM_fresher iM_fresherSize iM_scale iM_night rM_heardRow rM_cutRow iM_breaths iM_cutMany iM_allBreaths rM_trial rM_words iM_fewestBreaths iM_orderMany iM_orderSum iM_leastOrder rM_often iM_setMany iM_someOf iM_allOf iM_allWeight iM_enoughWeight iM_worthSum iM_firstRest iM_leastDrawn)]) rfl
  have hFc := va_freeM hD hS hA _ hMs
  refine va_callv (va_runV (As := []) (rest := []) ⟨hx, hb, hml, hown, hts⟩ (tX7_good l dC dI _ oM iM_thrown rM_tape iM_taped iM_size iM_at iM_end iM_token iM_whole iM_nameSize iM_fault iM_place iM_trouble rM_letters iM_failed iM_hasCourt rM_r rM_fresh rM_told rM_read rM_st rM_undone rM_kept iM_undos iM_images rM_fresher iM_fresherSize iM_scale iM_night rM_heardRow rM_cutRow iM_breaths iM_cutMany iM_allBreaths rM_trial rM_words iM_fewestBreaths iM_orderMany iM_orderSum iM_leastOrder rM_often iM_setMany iM_someOf iM_allOf iM_allWeight iM_enoughWeight iM_worthSum iM_firstRest iM_leastDrawn b_iM_taped b_iM_size b_iM_end b_iM_failed b_iM_hasCourt b_iM_undos b_iM_images b_iM_scale b_iM_breaths b_iM_cutMany) (cwV 0 hts (wd_V wd_388 wd_389 wd_390 wd_5 (wd_c wd_391)) rfl rfl rfl dv_yX7_good_0 ⟨Nat.le_of_ble_eq_true rfl, Nat.le_of_ble_eq_true rfl⟩) ⟨Pw.fb, recvX7 hK hP (q0 := 0) rfl, fun U hU hW => Pw.to (hP.ms _ hMs) (hD.ms _ hMs) (hK.ms [false, false, false] rfl) hE hS hFc hU hW⟩ rfl rfl hl.1 rfl (lv_room (Nat.le_of_ble_eq_true rfl)) dX7_line_1 ⟨Nat.le_of_ble_eq_true rfl, Nat.le_of_ble_eq_true rfl⟩) hS (fun q _ h => hFc q h) hFc (fun u t H locs ht hvm hw hB hz1 hk1 hS => ?_)
  refine ex_2_3 hB (fun x_7052 x_7053 b_x_7052 b_x_7053 e_x_7052_0 hB => ?_)
  obtain ⟨hP, hD⟩ := Bw.goN (ws' := [(oc7 oM x_7052 rM_tape iM_taped iM_size iM_at iM_end iM_token iM_whole iM_nameSize iM_fault iM_place x_7053 rM_letters iM_failed iM_hasCourt rM_r rM_fresh rM_told rM_read rM_st rM_undone rM_kept iM_undos iM_images rM_fresher iM_fresherSize iM_scale iM_night rM_heardRow rM_cutRow iM_breaths iM_cutMany iM_allBreaths rM_trial rM_words iM_fewestBreaths iM_orderMany iM_orderSum iM_leastOrder rM_often iM_setMany iM_someOf iM_allOf iM_allWeight iM_enoughWeight iM_worthSum iM_firstRest iM_leastDrawn), (arI rM_r kM_r 287 fM_r), (arI rM_told kM_told 90 fM_told), (arI rM_st kM_st 90 fM_st)]) hB rfl ht hP hD _ hMs hk1 hFc rfl
  clear hz1 hk1 hvm ht hB hMs
  have hG := hG.trans (un2_eq e_x_7052_0)
  refine lv_aload_n hx hb dX7_line_4 rfl (lv_at hl 0 rfl) ?_
  rcases (id r_C) with r_C0 | r_C1
  · skip
    refine va_get (D := (dC, dI)) (ci := 7) (v := .int iM_hasCourt) (C := RX7) (T := TX7) (N := 48) hx hb hts inX7 hown hK hP 0 rfl rfl 14 (by decide) (hts _ wd_385) (fun _ h9 => h9) rfl dX7_line_5 ?_
    refine lv_if_ne (tgt := 17) hx hb dX7_line_8 (by decide) (fun c_7054 => ?_) (fun c_7054 => ?_)
    · skip
      have hG := hG.trans (if_neg c_7054)
      have gc_7054 := ti_ne c_7054 rfl kc_0
      replace gc_7054 : iM_hasCourt.toInt + 1 ≤ 0 := om_c7c1b1e9 gc_7054 r_C0
      exact ((om_5185113d b_iM_hasCourt.1 gc_7054)).elim
    · skip
      have hG := hG.trans (if_pos c_7054)
      have gc_7054 := ti_eq c_7054 rfl kc_0
      refine lv_aload_n hx hb dX7_line_11 rfl (lv_at hl 0 rfl) ?_
      refine lv_iconst (v := 1) hx hb dX7_line_12 (by decide) ?_
      have hMs := ml_of hD [true, false, false, false] (wc := [(oc7 oM x_7052 rM_tape iM_taped iM_size iM_at iM_end iM_token iM_whole iM_nameSize iM_fault iM_place x_7053 rM_letters iM_failed iM_hasCourt rM_r rM_fresh rM_told rM_read rM_st rM_undone rM_kept iM_undos iM_images rM_fresher iM_fresherSize iM_scale iM_night rM_heardRow rM_cutRow iM_breaths iM_cutMany iM_allBreaths rM_trial rM_words iM_fewestBreaths iM_orderMany iM_orderSum iM_leastOrder rM_often iM_setMany iM_someOf iM_allOf iM_allWeight iM_enoughWeight iM_worthSum iM_firstRest iM_leastDrawn)]) rfl
      have hFc := va_freeM hD hS hA _ hMs
      refine va_calli (va_runV (As := [.int 1]) (rest := []) ⟨hx, hb, hml, hown, hts⟩ (tX7_no l dC dI _ oM x_7052 rM_tape iM_taped iM_size iM_at iM_end iM_token iM_whole iM_nameSize iM_fault iM_place x_7053 rM_letters iM_failed iM_hasCourt rM_r rM_fresh rM_told rM_read rM_st rM_undone rM_kept iM_undos iM_images rM_fresher iM_fresherSize iM_scale iM_night rM_heardRow rM_cutRow iM_breaths iM_cutMany iM_allBreaths rM_trial rM_words iM_fewestBreaths iM_orderMany iM_orderSum iM_leastOrder rM_often iM_setMany iM_someOf iM_allOf iM_allWeight iM_enoughWeight iM_worthSum iM_firstRest iM_leastDrawn 1 b_iM_taped b_iM_size b_iM_end b_iM_failed b_iM_hasCourt b_iM_undos b_iM_images b_iM_scale b_iM_breaths b_iM_cutMany) (cwV 1 hts (wd_V wd_396 wd_397 wd_398 wd_5 (wd_c wd_399)) rfl rfl rfl dv_yX7_no_1 ⟨Nat.le_of_ble_eq_true rfl, Nat.le_of_ble_eq_true rfl⟩) ⟨Pw.fb, recvX7 hK hP (q0 := 0) rfl, fun U hU hW => Pw.to (hP.ms _ hMs) (hD.ms _ hMs) (hK.ms [false, false, false] rfl) hE hS hFc hU hW⟩ rfl rfl hl.1 rfl (lv_room (Nat.le_of_ble_eq_true rfl)) dX7_line_13 ⟨Nat.le_of_ble_eq_true rfl, Nat.le_of_ble_eq_true rfl⟩) hS (fun q _ h => hFc q h) hFc (fun r u t H locs ht hvm hw hB hz1 hk1 hS => ?_)
      have hru9 := hw.2
      have hw := hw.1
      refine ex_1_1 hB (fun x_7055 e_x_7055_0 hB => ?_)
      obtain ⟨hP, hD⟩ := Bw.goN (ws' := [(oc7 oM x_7052 rM_tape iM_taped iM_size iM_at iM_end iM_token iM_whole iM_nameSize iM_fault iM_place x_7055 rM_letters iM_failed iM_hasCourt rM_r rM_fresh rM_told rM_read rM_st rM_undone rM_kept iM_undos iM_images rM_fresher iM_fresherSize iM_scale iM_night rM_heardRow rM_cutRow iM_breaths iM_cutMany iM_allBreaths rM_trial rM_words iM_fewestBreaths iM_orderMany iM_orderSum iM_leastOrder rM_often iM_setMany iM_someOf iM_allOf iM_allWeight iM_enoughWeight iM_worthSum iM_firstRest iM_leastDrawn), (arI rM_r kM_r 287 fM_r), (arI rM_told kM_told 90 fM_told), (arI rM_st kM_st 90 fM_st)]) hB rfl ht hP hD _ hMs hk1 hFc rfl
      clear hz1 hk1 hvm ht hB hMs
      rw [← hru9] at e_x_7055_0
      obtain ⟨x_7056, rfl⟩ : ∃ z, z = r := ⟨_, rfl⟩
      have hG := hG.trans (un2_eq e_x_7055_0)
      exact wq_i hx hb hr (cI x_7056) ⟨⟨trivial, trivial⟩, (cI_of x_7056)⟩ (fun t ht hW => ⟨x_7052, x_7055, (cI_tup hG), Bw.to hP hD hK ht hW⟩) hS dX7_line_16 hlocks
  · skip
    refine va_get (D := (dC, dI)) (ci := 7) (v := .int iM_hasCourt) (C := RX7) (T := TX7) (N := 48) hx hb hts inX7 hown hK hP 0 rfl rfl 14 (by decide) (hts _ wd_385) (fun _ h9 => h9) rfl dX7_line_5 ?_
    refine lv_if_ne (tgt := 17) hx hb dX7_line_8 (by decide) (fun c_7057 => ?_) (fun c_7057 => ?_)
    · skip
      have hG := hG.trans (if_neg c_7057)
      have gc_7057 := ti_ne c_7057 rfl kc_0
      replace gc_7057 : (-1) * iM_hasCourt.toInt + 1 ≤ 0 := om_e3003f79 gc_7057 b_iM_hasCourt.1
      refine lv_iconst (v := 1) hx hb dX7_line_17 (by decide) ?_
      refine lv_istore_n (lv' := [(1, .int 1), (0, .ref oM)]) hx hb dX7_line_18 rfl hl (by decide) rfl (fun ls hl => ?_)
      refine lv_aload_n hx hb dX7_line_19 rfl (lv_at hl 1 rfl) ?_
      refine lv_aload_n hx hb dX7_line_20 rfl (lv_at hl 1 rfl) ?_
      refine va_get (D := (dC, dI)) (ci := 7) (v := .ref rM_r) (C := RX7) (T := TX7) (N := 48) hx hb hts inX7 hown hK hP 0 rfl rfl 15 (by decide) (hts _ wd_155) (fun _ h9 => h9) rfl dX7_line_21 ?_
      refine lv_bipush (v := 6) hx hb dX7_line_24 (by decide) ?_
      refine va_iald hx hb hK hP 1 0 rfl rfl (by unfold vp_in; decide) dX7_line_26 ?_
      refine lv_topi (fun x_7058 ex_7058 => ?_)
      have hG := hG.trans (lt_eq ex_7058)
      have cx_7058 : (fM_r 6).toInt = x_7058.toInt := congrArg Int32.toInt (show fM_r 6 = x_7058 from ex_7058.symm)
      have hFc := va_freeI hD hS hA
      refine va_calli (va_runV (As := [.int x_7058]) (rest := []) ⟨hx, hb, hml, hown, hts⟩ (tX7_bestOf l dC dI _ oM x_7052 rM_tape iM_taped iM_size iM_at iM_end iM_token iM_whole iM_nameSize iM_fault iM_place x_7053 rM_letters iM_failed iM_hasCourt rM_r fM_r kM_r rM_fresh rM_told fM_told kM_told rM_read rM_st fM_st kM_st rM_undone rM_kept iM_undos iM_images rM_fresher iM_fresherSize iM_scale iM_night rM_heardRow rM_cutRow iM_breaths iM_cutMany iM_allBreaths rM_trial rM_words iM_fewestBreaths iM_orderMany iM_orderSum iM_leastOrder rM_often iM_setMany iM_someOf iM_allOf iM_allWeight iM_enoughWeight iM_worthSum iM_firstRest iM_leastDrawn x_7058 b_iM_taped b_iM_size b_iM_end b_iM_failed b_iM_hasCourt b_iM_undos b_iM_images b_iM_scale b_iM_breaths b_iM_cutMany (by assumption) (by assumption) (by assumption) (by assumption) (by assumption) ⟨(om_6429e25c r_C1.2.1 cx_7058), (om_21cef2c6 r_C1.2.2 cx_7058)⟩ hnt) (cwV 1 hts (wd_V wd_670 wd_671 wd_672 wd_5 (wd_c wd_673)) rfl rfl rfl dv_yX7_bestOf_1 ⟨Nat.le_of_ble_eq_true rfl, Nat.le_of_ble_eq_true rfl⟩) ⟨Pw.fb, recvX7 hK hP (q0 := 0) rfl, fun U hU hW => Pw.to hP hD hK hE hS hFc hU hW⟩ rfl rfl hl.1 rfl (lv_room (Nat.le_of_ble_eq_true rfl)) dX7_line_27 ⟨Nat.le_of_ble_eq_true rfl, Nat.le_of_ble_eq_true rfl⟩) hS (fun q _ h => hFc q h) hFc (fun r u t H locs ht hvm hw hB hz1 hk1 hS => ?_)
      have hru9 := hw.2
      have hw := hw.1
      obtain ⟨hP, hD⟩ := Bw.goA (ws' := [(oc7 oM x_7052 rM_tape iM_taped iM_size iM_at iM_end iM_token iM_whole iM_nameSize iM_fault iM_place x_7053 rM_letters iM_failed iM_hasCourt rM_r rM_fresh rM_told rM_read rM_st rM_undone rM_kept iM_undos iM_images rM_fresher iM_fresherSize iM_scale iM_night rM_heardRow rM_cutRow iM_breaths iM_cutMany iM_allBreaths rM_trial rM_words iM_fewestBreaths iM_orderMany iM_orderSum iM_leastOrder rM_often iM_setMany iM_someOf iM_allOf iM_allWeight iM_enoughWeight iM_worthSum iM_firstRest iM_leastDrawn), (arI rM_r kM_r 287 fM_r), (arI rM_told kM_told 90 fM_told), (arI rM_st kM_st 90 fM_st)]) hB rfl ht hFc rfl
      clear hz1 hk1 hvm ht hB
      obtain ⟨x_7059, rfl⟩ : ∃ z, z = r := ⟨_, rfl⟩
      have hG := hG.trans (lt_eq hru9.symm)
      have lx_7059 := hw.2
      have ux_7059 := hw.2
      refine lv_istore_n (lv' := [(2, .int x_7059), (1, .int 1), (0, .ref oM)]) hx hb dX7_line_30 rfl hl (by decide) rfl (fun ls hl => ?_)
      have hl := lv_sub hl (l' := [(2, .int x_7059), (1, .int 1), (0, .ref oM)]) [0, 1, 2] rfl
      have key_n_7062 : ∀ (n_7062 : Nat) (z_7060 : Int32) (z_7061 : Int32) (H : Heap) (locs : List Loc) (ls : Array Slot), (-2 ≤ z_7060.toInt ∧ z_7060.toInt < (fM_r 1).toInt) → (z_7060.toInt + 3).toNat < n_7062 → (PX7_line iM_hasCourt fM_r fM_told fM_st iM_scale iM_night = HX7_line_0 fM_r fM_told fM_st iM_scale iM_night x_7052 x_7053 n_7062 z_7060 z_7061) → va_P (dC, dI) vwCl [(oc7 oM x_7052 rM_tape iM_taped iM_size iM_at iM_end iM_token iM_whole iM_nameSize iM_fault iM_place x_7053 rM_letters iM_failed iM_hasCourt rM_r rM_fresh rM_told rM_read rM_st rM_undone rM_kept iM_undos iM_images rM_fresher iM_fresherSize iM_scale iM_night rM_heardRow rM_cutRow iM_breaths iM_cutMany iM_allBreaths rM_trial rM_words iM_fewestBreaths iM_orderMany iM_orderSum iM_leastOrder rM_often iM_setMany iM_someOf iM_allOf iM_allWeight iM_enoughWeight iM_worthSum iM_firstRest iM_leastDrawn), (arI rM_r kM_r 287 fM_r), (arI rM_told kM_told 90 fM_told), (arI rM_st kM_st 90 fM_st)] H → va_D A [(oc7 oM x_7052 rM_tape iM_taped iM_size iM_at iM_end iM_token iM_whole iM_nameSize iM_fault iM_place x_7053 rM_letters iM_failed iM_hasCourt rM_r rM_fresh rM_told rM_read rM_st rM_undone rM_kept iM_undos iM_images rM_fresher iM_fresherSize iM_scale iM_night rM_heardRow rM_cutRow iM_breaths iM_cutMany iM_allBreaths rM_trial rM_words iM_fewestBreaths iM_orderMany iM_orderSum iM_leastOrder rM_often iM_setMany iM_someOf iM_allOf iM_allWeight iM_enoughWeight iM_worthSum iM_firstRest iM_leastDrawn), (arI rM_r kM_r 287 fM_r), (arI rM_told kM_told 90 fM_told), (arI rM_st kM_st 90 fM_st)] → va_S A s.heap H locs → lv_has ls 3 [(2, .int z_7060), (1, .int z_7061), (0, .ref oM)] → W p l e (headSpec (Cond.code yX7_line cX7_line 3 (some .int) :: wG) ({ frames := 22, cells := 0, slots := 0, locals := 586 })).room s m ([.ref oM] : List Value).toArray below meth c H locs 0 0 (MQ below (va_Qi (fun (r : Int32) (u : Nat) => (True ∧ True) ∧ r = Int32.ofNat u) (fun (u : Nat) (t : State) => ∃ (niM_thrown : Int32) (niM_trouble : Int32), (PX7_line iM_hasCourt fM_r fM_told fM_st iM_scale iM_night = (Int32.ofNat u, niM_thrown, niM_trouble)) ∧ Bw dC dI A [(oc7 oM niM_thrown rM_tape iM_taped iM_size iM_at iM_end iM_token iM_whole iM_nameSize iM_fault iM_place niM_trouble rM_letters iM_failed iM_hasCourt rM_r rM_fresh rM_told rM_read rM_st rM_undone rM_kept iM_undos iM_images rM_fresher iM_fresherSize iM_scale iM_night rM_heardRow rM_cutRow iM_breaths iM_cutMany iM_allBreaths rM_trial rM_words iM_fewestBreaths iM_orderMany iM_orderSum iM_leastOrder rM_often iM_setMany iM_someOf iM_allOf iM_allWeight iM_enoughWeight iM_worthSum iM_firstRest iM_leastDrawn), (arI rM_r kM_r 287 fM_r), (arI rM_told kM_told 90 fM_told), (arI rM_st kM_st 90 fM_st)] [(kM_r, .int), (kM_told, .int), (kM_st, .int)] t) A) ([.ref oM] : List Value).toArray s 0 0 A) (F0 m 31 ls []) := by
        intro n_7062
        induction n_7062 with
        | zero => intro z_7060 z_7061 H locs ls hi0_n_7062 hm; exact absurd hm (Nat.not_lt_zero _)
        | succ n_7062 ih_n_7062 =>
          intro z_7060 z_7061 H locs ls hi0_n_7062 hm_n_7062 hG hP hD hS hl
          have hG := hG.trans (HX7_line_0_eq _ _ _ _ _ _ _ _ _ _)
          refine lv_iload_n hx hb dX7_line_31 rfl (lv_at hl 0 rfl) ?_
          refine lv_if_lt (tgt := 47) hx hb dX7_line_32 (by decide) (fun c_7063 => ?_) (fun c_7063 => ?_)
          · skip
            have hG := hG.trans (if_pos c_7063)
            have gc_7063 := ti_lt c_7063 rfl kc_0
            refine lv_iload_n hx hb dX7_line_47 rfl (lv_at hl 1 rfl) ?_
            exact wq_i hx hb hr (cI z_7061) ⟨⟨trivial, trivial⟩, (cI_of z_7061)⟩ (fun t ht hW => ⟨x_7052, x_7053, (cI_tup hG), Bw.to hP hD hK ht hW⟩) hS dX7_line_48 hlocks
          · skip
            have hG := hG.trans (if_neg c_7063)
            have gc_7063 := ti_nlt c_7063 rfl kc_0
            obtain ⟨x_7064, ex_7064⟩ : ∃ z : Int32, z = z_7061 + Int32.ofInt 1 := ⟨_, rfl⟩
            have hG := hG.trans (lt_eq ex_7064)
            refine lv_iinc (v := x_7064) (lv' := [(1, .int x_7064), (2, .int z_7060), (0, .ref oM)]) hx hb dX7_line_35 hl (k := 1) rfl ex_7064.symm (by decide) rfl (fun ls hl => ?_)
            refine lv_aload_n hx hb dX7_line_38 rfl (lv_at hl 2 rfl) ?_
            refine lv_iload_n hx hb dX7_line_39 rfl (lv_at hl 1 rfl) ?_
            have hFc := va_freeI hD hS hA
            refine va_calli (va_runV (As := [.int z_7060]) (rest := []) ⟨hx, hb, hml, hown, hts⟩ (tX7_bestOf l dC dI _ oM x_7052 rM_tape iM_taped iM_size iM_at iM_end iM_token iM_whole iM_nameSize iM_fault iM_place x_7053 rM_letters iM_failed iM_hasCourt rM_r fM_r kM_r rM_fresh rM_told fM_told kM_told rM_read rM_st fM_st kM_st rM_undone rM_kept iM_undos iM_images rM_fresher iM_fresherSize iM_scale iM_night rM_heardRow rM_cutRow iM_breaths iM_cutMany iM_allBreaths rM_trial rM_words iM_fewestBreaths iM_orderMany iM_orderSum iM_leastOrder rM_often iM_setMany iM_someOf iM_allOf iM_allWeight iM_enoughWeight iM_worthSum iM_firstRest iM_leastDrawn z_7060 b_iM_taped b_iM_size b_iM_end b_iM_failed b_iM_hasCourt b_iM_undos b_iM_images b_iM_scale b_iM_breaths b_iM_cutMany (by assumption) (by assumption) (by assumption) (by assumption) (by assumption) ⟨gc_7063, hi0_n_7062.2⟩ hnt) (cwV 1 hts (wd_V wd_670 wd_671 wd_672 wd_5 (wd_c wd_673)) rfl rfl rfl dv_yX7_bestOf_1 ⟨Nat.le_of_ble_eq_true rfl, Nat.le_of_ble_eq_true rfl⟩) ⟨Pw.fb, recvX7 hK hP (q0 := 0) rfl, fun U hU hW => Pw.to hP hD hK hE hS hFc hU hW⟩ rfl rfl hl.1 rfl (lv_room (Nat.le_of_ble_eq_true rfl)) dX7_line_40 ⟨Nat.le_of_ble_eq_true rfl, Nat.le_of_ble_eq_true rfl⟩) hS (fun q _ h => hFc q h) hFc (fun r u t H locs ht hvm hw hB hz1 hk1 hS => ?_)
            have hru9 := hw.2
            have hw := hw.1
            obtain ⟨hP, hD⟩ := Bw.goA (ws' := [(oc7 oM x_7052 rM_tape iM_taped iM_size iM_at iM_end iM_token iM_whole iM_nameSize iM_fault iM_place x_7053 rM_letters iM_failed iM_hasCourt rM_r rM_fresh rM_told rM_read rM_st rM_undone rM_kept iM_undos iM_images rM_fresher iM_fresherSize iM_scale iM_night rM_heardRow rM_cutRow iM_breaths iM_cutMany iM_allBreaths rM_trial rM_words iM_fewestBreaths iM_orderMany iM_orderSum iM_leastOrder rM_often iM_setMany iM_someOf iM_allOf iM_allWeight iM_enoughWeight iM_worthSum iM_firstRest iM_leastDrawn), (arI rM_r kM_r 287 fM_r), (arI rM_told kM_told 90 fM_told), (arI rM_st kM_st 90 fM_st)]) hB rfl ht hFc rfl
            clear hz1 hk1 hvm ht hB
            obtain ⟨x_7065, rfl⟩ : ∃ z, z = r := ⟨_, rfl⟩
            have hG := hG.trans (lt_eq hru9.symm)
            have lx_7065 := hw.2
            have ux_7065 := hw.2
            refine lv_istore_n (lv' := [(2, .int x_7065), (1, .int x_7064), (0, .ref oM)]) hx hb dX7_line_43 rfl hl (by decide) rfl (fun ls hl => ?_)
            refine lv_goto (tgt := 31) hx hb dX7_line_44 (by decide) ?_
            exact ih_n_7062 x_7065 x_7064 _ _ _  ⟨lx_7065.1, (om_90a71968 hi0_n_7062.2 lx_7065.2.1)⟩ (ms_lt hm_n_7062 (om_27cbe1c0 lx_7065.2.1) (om_9734b4e0 hi0_n_7062.1)) hG hP hD hS (lv_sub hl [0, 1, 2] rfl)
      exact key_n_7062 (((x_7059.toInt + 3).toNat) + 1) x_7059 1 _ _ _  ⟨lx_7059.1, (om_2d06027e r_C1.2.2 cx_7058 lx_7059.2.1)⟩ (Nat.lt_add_one _) hG hP hD hS hl
    · skip
      have hG := hG.trans (if_pos c_7057)
      have gc_7057 := ti_eq c_7057 rfl kc_0
      refine lv_aload_n hx hb dX7_line_11 rfl (lv_at hl 0 rfl) ?_
      refine lv_iconst (v := 1) hx hb dX7_line_12 (by decide) ?_
      have hMs := ml_of hD [true, false, false, false] (wc := [(oc7 oM x_7052 rM_tape iM_taped iM_size iM_at iM_end iM_token iM_whole iM_nameSize iM_fault iM_place x_7053 rM_letters iM_failed iM_hasCourt rM_r rM_fresh rM_told rM_read rM_st rM_undone rM_kept iM_undos iM_images rM_fresher iM_fresherSize iM_scale iM_night rM_heardRow rM_cutRow iM_breaths iM_cutMany iM_allBreaths rM_trial rM_words iM_fewestBreaths iM_orderMany iM_orderSum iM_leastOrder rM_often iM_setMany iM_someOf iM_allOf iM_allWeight iM_enoughWeight iM_worthSum iM_firstRest iM_leastDrawn)]) rfl
      have hFc := va_freeM hD hS hA _ hMs
      refine va_calli (va_runV (As := [.int 1]) (rest := []) ⟨hx, hb, hml, hown, hts⟩ (tX7_no l dC dI _ oM x_7052 rM_tape iM_taped iM_size iM_at iM_end iM_token iM_whole iM_nameSize iM_fault iM_place x_7053 rM_letters iM_failed iM_hasCourt rM_r rM_fresh rM_told rM_read rM_st rM_undone rM_kept iM_undos iM_images rM_fresher iM_fresherSize iM_scale iM_night rM_heardRow rM_cutRow iM_breaths iM_cutMany iM_allBreaths rM_trial rM_words iM_fewestBreaths iM_orderMany iM_orderSum iM_leastOrder rM_often iM_setMany iM_someOf iM_allOf iM_allWeight iM_enoughWeight iM_worthSum iM_firstRest iM_leastDrawn 1 b_iM_taped b_iM_size b_iM_end b_iM_failed b_iM_hasCourt b_iM_undos b_iM_images b_iM_scale b_iM_breaths b_iM_cutMany) (cwV 1 hts (wd_V wd_396 wd_397 wd_398 wd_5 (wd_c wd_399)) rfl rfl rfl dv_yX7_no_1 ⟨Nat.le_of_ble_eq_true rfl, Nat.le_of_ble_eq_true rfl⟩) ⟨Pw.fb, recvX7 hK hP (q0 := 0) rfl, fun U hU hW => Pw.to (hP.ms _ hMs) (hD.ms _ hMs) (hK.ms [false, false, false] rfl) hE hS hFc hU hW⟩ rfl rfl hl.1 rfl (lv_room (Nat.le_of_ble_eq_true rfl)) dX7_line_13 ⟨Nat.le_of_ble_eq_true rfl, Nat.le_of_ble_eq_true rfl⟩) hS (fun q _ h => hFc q h) hFc (fun r u t H locs ht hvm hw hB hz1 hk1 hS => ?_)
      have hru9 := hw.2
      have hw := hw.1
      refine ex_1_1 hB (fun x_7066 e_x_7066_0 hB => ?_)
      obtain ⟨hP, hD⟩ := Bw.goN (ws' := [(oc7 oM x_7052 rM_tape iM_taped iM_size iM_at iM_end iM_token iM_whole iM_nameSize iM_fault iM_place x_7066 rM_letters iM_failed iM_hasCourt rM_r rM_fresh rM_told rM_read rM_st rM_undone rM_kept iM_undos iM_images rM_fresher iM_fresherSize iM_scale iM_night rM_heardRow rM_cutRow iM_breaths iM_cutMany iM_allBreaths rM_trial rM_words iM_fewestBreaths iM_orderMany iM_orderSum iM_leastOrder rM_often iM_setMany iM_someOf iM_allOf iM_allWeight iM_enoughWeight iM_worthSum iM_firstRest iM_leastDrawn), (arI rM_r kM_r 287 fM_r), (arI rM_told kM_told 90 fM_told), (arI rM_st kM_st 90 fM_st)]) hB rfl ht hP hD _ hMs hk1 hFc rfl
      clear hz1 hk1 hvm ht hB hMs
      rw [← hru9] at e_x_7066_0
      obtain ⟨x_7067, rfl⟩ : ∃ z, z = r := ⟨_, rfl⟩
      have hG := hG.trans (un2_eq e_x_7066_0)
      exact wq_i hx hb hr (cI x_7067) ⟨⟨trivial, trivial⟩, (cI_of x_7067)⟩ (fun t ht hW => ⟨x_7052, x_7066, (cI_tup hG), Bw.to hP hD hK ht hW⟩) hS dX7_line_16 hlocks
set_option maxHeartbeats 4000000 in
set_option maxRecDepth 100000 in
theorem tX7_lineAt (l : Launch) (dC : Nat → ClassId) (dI : Nat → Nat → Nat) (sz : Nat) (oM : Nat) (iM_thrown : Int32) (rM_tape : Nat) (iM_taped : Int32) (iM_size : Int32) (iM_at : Int32) (iM_end : Int32) (iM_token : Int32) (iM_whole : Int32) (iM_nameSize : Int32) (iM_fault : Int32) (iM_place : Int32) (iM_trouble : Int32) (rM_letters : Nat) (iM_failed : Int32) (iM_hasCourt : Int32) (rM_r : Nat) (fM_r : Nat → Int32) (kM_r : ClassId) (rM_fresh : Nat) (rM_told : Nat) (fM_told : Nat → Int32) (kM_told : ClassId) (rM_read : Nat) (rM_st : Nat) (fM_st : Nat → Int32) (kM_st : ClassId) (rM_undone : Nat) (rM_kept : Nat) (iM_undos : Int32) (iM_images : Int32) (rM_fresher : Nat) (iM_fresherSize : Int32) (iM_scale : Int32) (iM_night : Int32) (rM_heardRow : Nat) (rM_cutRow : Nat) (iM_breaths : Int32) (iM_cutMany : Int32) (iM_allBreaths : Int32) (rM_trial : Nat) (rM_words : Nat) (iM_fewestBreaths : Int32) (iM_orderMany : Int32) (iM_orderSum : Int32) (iM_leastOrder : Int32) (rM_often : Nat) (iM_setMany : Int32) (iM_someOf : Int32) (iM_allOf : Int32) (iM_allWeight : Int64) (iM_enoughWeight : Int64) (iM_worthSum : Int64) (iM_firstRest : Int32) (iM_leastDrawn : Int32) (p0 : Int32) (b_iM_taped : 0 ≤ iM_taped.toInt ∧ iM_taped.toInt ≤ 900) (b_iM_size : 0 ≤ iM_size.toInt ∧ iM_size.toInt ≤ 900) (b_iM_end : 0 ≤ iM_end.toInt ∧ iM_end.toInt ≤ 900) (b_iM_failed : 0 ≤ iM_failed.toInt ∧ iM_failed.toInt ≤ 1) (b_iM_hasCourt : 0 ≤ iM_hasCourt.toInt ∧ iM_hasCourt.toInt ≤ 1) (b_iM_undos : 0 ≤ iM_undos.toInt ∧ iM_undos.toInt ≤ 16) (b_iM_images : 0 ≤ iM_images.toInt ∧ iM_images.toInt ≤ 3) (b_iM_scale : 1 ≤ iM_scale.toInt ∧ iM_scale.toInt ≤ 1296) (b_iM_breaths : 0 ≤ iM_breaths.toInt ∧ iM_breaths.toInt ≤ 399) (b_iM_cutMany : 0 ≤ iM_cutMany.toInt ∧ iM_cutMany.toInt ≤ 399) (r_R : ROk fM_r) (r_C : iM_hasCourt.toInt ≤ 0 ∨ (1 ≤ (fM_r 1).toInt ∧ 0 ≤ (fM_r 6).toInt ∧ (fM_r 6).toInt < (fM_r 1).toInt)) (r_st : RowOk fM_r fM_st) (r_told : RowOk fM_r fM_told) (r_wst : WorOk fM_st) (hnt : iM_night.toInt = -1) : Met l yX7_lineAt (Cond.code yX7_lineAt cX7_lineAt 4 (some .int) :: wG) ({ frames := 22, cells := 0, slots := 0, locals := 586 }) (va_Pc [.ref oM, .int p0] (Pw dC dI sz [(oc7 oM iM_thrown rM_tape iM_taped iM_size iM_at iM_end iM_token iM_whole iM_nameSize iM_fault iM_place iM_trouble rM_letters iM_failed iM_hasCourt rM_r rM_fresh rM_told rM_read rM_st rM_undone rM_kept iM_undos iM_images rM_fresher iM_fresherSize iM_scale iM_night rM_heardRow rM_cutRow iM_breaths iM_cutMany iM_allBreaths rM_trial rM_words iM_fewestBreaths iM_orderMany iM_orderSum iM_leastOrder rM_often iM_setMany iM_someOf iM_allOf iM_allWeight iM_enoughWeight iM_worthSum iM_firstRest iM_leastDrawn), (arI rM_r kM_r 287 fM_r), (arI rM_told kM_told 90 fM_told), (arI rM_st kM_st 90 fM_st)] [(kM_r, .int), (kM_told, .int), (kM_st, .int)])) (va_Qi (fun (r : Int32) (u : Nat) => (True ∧ True) ∧ r = Int32.ofNat u) (fun (u : Nat) (t : State) => ∃ (niM_thrown : Int32) (niM_trouble : Int32), (PX7_lineAt iM_hasCourt fM_r fM_told fM_st iM_scale iM_night p0 = (Int32.ofNat u, niM_thrown, niM_trouble)) ∧ Bw dC dI (va_A [(oc7 oM iM_thrown rM_tape iM_taped iM_size iM_at iM_end iM_token iM_whole iM_nameSize iM_fault iM_place iM_trouble rM_letters iM_failed iM_hasCourt rM_r rM_fresh rM_told rM_read rM_st rM_undone rM_kept iM_undos iM_images rM_fresher iM_fresherSize iM_scale iM_night rM_heardRow rM_cutRow iM_breaths iM_cutMany iM_allBreaths rM_trial rM_words iM_fewestBreaths iM_orderMany iM_orderSum iM_leastOrder rM_often iM_setMany iM_someOf iM_allOf iM_allWeight iM_enoughWeight iM_worthSum iM_firstRest iM_leastDrawn), (arI rM_r kM_r 287 fM_r), (arI rM_told kM_told 90 fM_told), (arI rM_st kM_st 90 fM_st)] sz) [(oc7 oM niM_thrown rM_tape iM_taped iM_size iM_at iM_end iM_token iM_whole iM_nameSize iM_fault iM_place niM_trouble rM_letters iM_failed iM_hasCourt rM_r rM_fresh rM_told rM_read rM_st rM_undone rM_kept iM_undos iM_images rM_fresher iM_fresherSize iM_scale iM_night rM_heardRow rM_cutRow iM_breaths iM_cutMany iM_allBreaths rM_trial rM_words iM_fewestBreaths iM_orderMany iM_orderSum iM_leastOrder rM_often iM_setMany iM_someOf iM_allOf iM_allWeight iM_enoughWeight iM_worthSum iM_firstRest iM_leastDrawn), (arI rM_r kM_r 287 fM_r), (arI rM_told kM_told 90 fM_told), (arI rM_st kM_st 90 fM_st)] [(kM_r, .int), (kM_told, .int), (kM_st, .int)] t) (va_A [(oc7 oM iM_thrown rM_tape iM_taped iM_size iM_at iM_end iM_token iM_whole iM_nameSize iM_fault iM_place iM_trouble rM_letters iM_failed iM_hasCourt rM_r rM_fresh rM_told rM_read rM_st rM_undone rM_kept iM_undos iM_images rM_fresher iM_fresherSize iM_scale iM_night rM_heardRow rM_cutRow iM_breaths iM_cutMany iM_allBreaths rM_trial rM_words iM_fewestBreaths iM_orderMany iM_orderSum iM_leastOrder rM_often iM_setMany iM_someOf iM_allOf iM_allWeight iM_enoughWeight iM_worthSum iM_firstRest iM_leastDrawn), (arI rM_r kM_r 287 fM_r), (arI rM_told kM_told 90 fM_told), (arI rM_st kM_st 90 fM_st)] sz)) 0 0 (va_A [(oc7 oM iM_thrown rM_tape iM_taped iM_size iM_at iM_end iM_token iM_whole iM_nameSize iM_fault iM_place iM_trouble rM_letters iM_failed iM_hasCourt rM_r rM_fresh rM_told rM_read rM_st rM_undone rM_kept iM_undos iM_images rM_fresher iM_fresherSize iM_scale iM_night rM_heardRow rM_cutRow iM_breaths iM_cutMany iM_allBreaths rM_trial rM_words iM_fewestBreaths iM_orderMany iM_orderSum iM_leastOrder rM_often iM_setMany iM_someOf iM_allOf iM_allWeight iM_enoughWeight iM_worthSum iM_firstRest iM_leastDrawn), (arI rM_r kM_r 287 fM_r), (arI rM_told kM_told 90 fM_told), (arI rM_st kM_st 90 fM_st)] sz) := by
  refine Met.ofW (cc := cX7_lineAt) (maxL := 4) (ret := (some .int)) pnX7 rfl ?_
  intro p e s m args below meth c s₁ B hml hv
  obtain ⟨rfl, hsz, hP, hK, hD0, hE⟩ := hv
  have hx := B.exec
  have hb := B.bytes
  have hr := B.returns
  have hts : ∀ w ∈ wG, w.before ([.ref oM, .int p0] : List Value).toArray s = true := fun w h => atoms_spec (ws := Cond.code yX7_lineAt cX7_lineAt 4 (some .int) :: wG) B.pre w (List.mem_cons_of_mem _ h)
  have hown : s.vm.findClass RX7 = some m.cls := own_of B.named rfl
  have hlocks := B.notSynchronized
  subst hsz
  have hD := hD0.self (sz := s.heap.size)
  generalize hAe : va_A [(oc7 oM iM_thrown rM_tape iM_taped iM_size iM_at iM_end iM_token iM_whole iM_nameSize iM_fault iM_place iM_trouble rM_letters iM_failed iM_hasCourt rM_r rM_fresh rM_told rM_read rM_st rM_undone rM_kept iM_undos iM_images rM_fresher iM_fresherSize iM_scale iM_night rM_heardRow rM_cutRow iM_breaths iM_cutMany iM_allBreaths rM_trial rM_words iM_fewestBreaths iM_orderMany iM_orderSum iM_leastOrder rM_often iM_setMany iM_someOf iM_allOf iM_allWeight iM_enoughWeight iM_worthSum iM_firstRest iM_leastDrawn), (arI rM_r kM_r 287 fM_r), (arI rM_told kM_told 90 fM_told), (arI rM_st kM_st 90 fM_st)] s.heap.size = A at hD hE ⊢
  have hA : ∀ q : Nat, s.heap.size ≤ q → A q := fun q h => by rw [← hAe]; exact Or.inr h
  have hS : va_S A s.heap s.heap [] := va_S.rf
  have hl := lv_entry ([.ref oM, .int p0]) (n := 4) (Nat.le_of_ble_eq_true rfl)
  rw [lg_entry_eq]
  generalize (lg_sl ([.ref oM, .int p0]) ++ List.replicate (4 - (lg_sl ([.ref oM, .int p0])).length) Slot.unset).toArray = ls at hl ⊢
  have hl : lv_has ls 4 [(0, .ref oM), (1, .int p0)] := hl
  have hG := PX7_lineAt_eq iM_hasCourt fM_r fM_told fM_st iM_scale iM_night p0
  have rg_p0 := fb_rng p0
  have s_slips := r_R.slips
  have s_nodes := r_R.nodes
  have s_uns := r_R.uns
  refine lv_aload_n hx hb dX7_lineAt_0 rfl (lv_at hl 0 rfl) ?_
  have hMs := ml_of hD [true, false, false, false] (wc := [(oc7 oM iM_thrown rM_tape iM_taped iM_size iM_at iM_end iM_token iM_whole iM_nameSize iM_fault iM_place iM_trouble rM_letters iM_failed iM_hasCourt rM_r rM_fresh rM_told rM_read rM_st rM_undone rM_kept iM_undos iM_images rM_fresher iM_fresherSize iM_scale iM_night rM_heardRow rM_cutRow iM_breaths iM_cutMany iM_allBreaths rM_trial rM_words iM_fewestBreaths iM_orderMany iM_orderSum iM_leastOrder rM_often iM_setMany iM_someOf iM_allOf iM_allWeight iM_enoughWeight iM_worthSum iM_firstRest iM_leastDrawn)]) rfl
  have hFc := va_freeM hD hS hA _ hMs
  refine va_callv (va_runV (As := []) (rest := []) ⟨hx, hb, hml, hown, hts⟩ (tX7_good l dC dI _ oM iM_thrown rM_tape iM_taped iM_size iM_at iM_end iM_token iM_whole iM_nameSize iM_fault iM_place iM_trouble rM_letters iM_failed iM_hasCourt rM_r rM_fresh rM_told rM_read rM_st rM_undone rM_kept iM_undos iM_images rM_fresher iM_fresherSize iM_scale iM_night rM_heardRow rM_cutRow iM_breaths iM_cutMany iM_allBreaths rM_trial rM_words iM_fewestBreaths iM_orderMany iM_orderSum iM_leastOrder rM_often iM_setMany iM_someOf iM_allOf iM_allWeight iM_enoughWeight iM_worthSum iM_firstRest iM_leastDrawn b_iM_taped b_iM_size b_iM_end b_iM_failed b_iM_hasCourt b_iM_undos b_iM_images b_iM_scale b_iM_breaths b_iM_cutMany) (cwV 0 hts (wd_V wd_388 wd_389 wd_390 wd_5 (wd_c wd_391)) rfl rfl rfl dv_yX7_good_0 ⟨Nat.le_of_ble_eq_true rfl, Nat.le_of_ble_eq_true rfl⟩) ⟨Pw.fb, recvX7 hK hP (q0 := 0) rfl, fun U hU hW => Pw.to (hP.ms _ hMs) (hD.ms _ hMs) (hK.ms [false, false, false] rfl) hE hS hFc hU hW⟩ rfl rfl hl.1 rfl (lv_room (Nat.le_of_ble_eq_true rfl)) dX7_lineAt_1 ⟨Nat.le_of_ble_eq_true rfl, Nat.le_of_ble_eq_true rfl⟩) hS (fun q _ h => hFc q h) hFc (fun u t H locs ht hvm hw hB hz1 hk1 hS => ?_)
  refine ex_2_3 hB (fun x_7115 x_7116 b_x_7115 b_x_7116 e_x_7115_0 hB => ?_)
  obtain ⟨hP, hD⟩ := Bw.goN (ws' := [(oc7 oM x_7115 rM_tape iM_taped iM_size iM_at iM_end iM_token iM_whole iM_nameSize iM_fault iM_place x_7116 rM_letters iM_failed iM_hasCourt rM_r rM_fresh rM_told rM_read rM_st rM_undone rM_kept iM_undos iM_images rM_fresher iM_fresherSize iM_scale iM_night rM_heardRow rM_cutRow iM_breaths iM_cutMany iM_allBreaths rM_trial rM_words iM_fewestBreaths iM_orderMany iM_orderSum iM_leastOrder rM_often iM_setMany iM_someOf iM_allOf iM_allWeight iM_enoughWeight iM_worthSum iM_firstRest iM_leastDrawn), (arI rM_r kM_r 287 fM_r), (arI rM_told kM_told 90 fM_told), (arI rM_st kM_st 90 fM_st)]) hB rfl ht hP hD _ hMs hk1 hFc rfl
  clear hz1 hk1 hvm ht hB hMs
  have rg_x_7115 := fb_rng x_7115
  have rg_x_7116 := fb_rng x_7116
  have hG := hG.trans (un2_eq e_x_7115_0)
  refine lv_aload_n hx hb dX7_lineAt_4 rfl (lv_at hl 0 rfl) ?_
  rcases (id r_C) with r_C0 | r_C1
  · skip
    refine va_get (D := (dC, dI)) (ci := 7) (v := .int iM_hasCourt) (C := RX7) (T := TX7) (N := 48) hx hb hts inX7 hown hK hP 0 rfl rfl 14 (by decide) (hts _ wd_385) (fun _ h9 => h9) rfl dX7_lineAt_5 ?_
    have rg_iM_hasCourt := fb_rng iM_hasCourt
    refine lv_if_eq (tgt := 15) hx hb dX7_lineAt_8 (by decide) (fun c_7117 => ?_) (fun c_7117 => ?_)
    · skip
      have hG := hG.trans (if_pos c_7117)
      have gc_7117 := ti_eq c_7117 rfl kc_0
      refine lv_aload_n hx hb dX7_lineAt_15 rfl (lv_at hl 0 rfl) ?_
      refine lv_iconst (v := 1) hx hb dX7_lineAt_16 (by decide) ?_
      have hMs := ml_of hD [true, false, false, false] (wc := [(oc7 oM x_7115 rM_tape iM_taped iM_size iM_at iM_end iM_token iM_whole iM_nameSize iM_fault iM_place x_7116 rM_letters iM_failed iM_hasCourt rM_r rM_fresh rM_told rM_read rM_st rM_undone rM_kept iM_undos iM_images rM_fresher iM_fresherSize iM_scale iM_night rM_heardRow rM_cutRow iM_breaths iM_cutMany iM_allBreaths rM_trial rM_words iM_fewestBreaths iM_orderMany iM_orderSum iM_leastOrder rM_often iM_setMany iM_someOf iM_allOf iM_allWeight iM_enoughWeight iM_worthSum iM_firstRest iM_leastDrawn)]) rfl
      have hFc := va_freeM hD hS hA _ hMs
      refine va_calli (va_runV (As := [.int 1]) (rest := []) ⟨hx, hb, hml, hown, hts⟩ (tX7_no l dC dI _ oM x_7115 rM_tape iM_taped iM_size iM_at iM_end iM_token iM_whole iM_nameSize iM_fault iM_place x_7116 rM_letters iM_failed iM_hasCourt rM_r rM_fresh rM_told rM_read rM_st rM_undone rM_kept iM_undos iM_images rM_fresher iM_fresherSize iM_scale iM_night rM_heardRow rM_cutRow iM_breaths iM_cutMany iM_allBreaths rM_trial rM_words iM_fewestBreaths iM_orderMany iM_orderSum iM_leastOrder rM_often iM_setMany iM_someOf iM_allOf iM_allWeight iM_enoughWeight iM_worthSum iM_firstRest iM_leastDrawn 1 b_iM_taped b_iM_size b_iM_end b_iM_failed b_iM_hasCourt b_iM_undos b_iM_images b_iM_scale b_iM_breaths b_iM_cutMany) (cwV 1 hts (wd_V wd_396 wd_397 wd_398 wd_5 (wd_c wd_399)) rfl rfl rfl dv_yX7_no_1 ⟨Nat.le_of_ble_eq_true rfl, Nat.le_of_ble_eq_true rfl⟩) ⟨Pw.fb, recvX7 hK hP (q0 := 0) rfl, fun U hU hW => Pw.to (hP.ms _ hMs) (hD.ms _ hMs) (hK.ms [false, false, false] rfl) hE hS hFc hU hW⟩ rfl rfl hl.1 rfl (lv_room (Nat.le_of_ble_eq_true rfl)) dX7_lineAt_17 ⟨Nat.le_of_ble_eq_true rfl, Nat.le_of_ble_eq_true rfl⟩) hS (fun q _ h => hFc q h) hFc (fun r u t H locs ht hvm hw hB hz1 hk1 hS => ?_)
      have hru9 := hw.2
      have hw := hw.1
      refine ex_1_1 hB (fun x_7118 e_x_7118_0 hB => ?_)
      obtain ⟨hP, hD⟩ := Bw.goN (ws' := [(oc7 oM x_7115 rM_tape iM_taped iM_size iM_at iM_end iM_token iM_whole iM_nameSize iM_fault iM_place x_7118 rM_letters iM_failed iM_hasCourt rM_r rM_fresh rM_told rM_read rM_st rM_undone rM_kept iM_undos iM_images rM_fresher iM_fresherSize iM_scale iM_night rM_heardRow rM_cutRow iM_breaths iM_cutMany iM_allBreaths rM_trial rM_words iM_fewestBreaths iM_orderMany iM_orderSum iM_leastOrder rM_often iM_setMany iM_someOf iM_allOf iM_allWeight iM_enoughWeight iM_worthSum iM_firstRest iM_leastDrawn), (arI rM_r kM_r 287 fM_r), (arI rM_told kM_told 90 fM_told), (arI rM_st kM_st 90 fM_st)]) hB rfl ht hP hD _ hMs hk1 hFc rfl
      clear hz1 hk1 hvm ht hB hMs
      have rg_x_7118 := fb_rng x_7118
      rw [← hru9] at e_x_7118_0
      obtain ⟨x_7119, rfl⟩ : ∃ z, z = r := ⟨_, rfl⟩
      have hG := hG.trans (un2_eq e_x_7118_0)
      have rg_x_7119 := fb_rng x_7119
      exact wq_i hx hb hr (cI x_7119) ⟨⟨trivial, trivial⟩, (cI_of x_7119)⟩ (fun t ht hW => ⟨x_7115, x_7118, (cI_tup hG), Bw.to hP hD hK ht hW⟩) hS dX7_lineAt_20 hlocks
    · skip
      have hG := hG.trans (if_neg c_7117)
      have gc_7117 := ti_ne c_7117 rfl kc_0
      replace gc_7117 : iM_hasCourt.toInt + 1 ≤ 0 := om_c7c1b1e9 gc_7117 r_C0
      exact ((om_5185113d b_iM_hasCourt.1 gc_7117)).elim
  · skip
    refine va_get (D := (dC, dI)) (ci := 7) (v := .int iM_hasCourt) (C := RX7) (T := TX7) (N := 48) hx hb hts inX7 hown hK hP 0 rfl rfl 14 (by decide) (hts _ wd_385) (fun _ h9 => h9) rfl dX7_lineAt_5 ?_
    have rg_iM_hasCourt := fb_rng iM_hasCourt
    refine lv_if_eq (tgt := 15) hx hb dX7_lineAt_8 (by decide) (fun c_7120 => ?_) (fun c_7120 => ?_)
    · skip
      have hG := hG.trans (if_pos c_7120)
      have gc_7120 := ti_eq c_7120 rfl kc_0
      refine lv_aload_n hx hb dX7_lineAt_15 rfl (lv_at hl 0 rfl) ?_
      refine lv_iconst (v := 1) hx hb dX7_lineAt_16 (by decide) ?_
      have hMs := ml_of hD [true, false, false, false] (wc := [(oc7 oM x_7115 rM_tape iM_taped iM_size iM_at iM_end iM_token iM_whole iM_nameSize iM_fault iM_place x_7116 rM_letters iM_failed iM_hasCourt rM_r rM_fresh rM_told rM_read rM_st rM_undone rM_kept iM_undos iM_images rM_fresher iM_fresherSize iM_scale iM_night rM_heardRow rM_cutRow iM_breaths iM_cutMany iM_allBreaths rM_trial rM_words iM_fewestBreaths iM_orderMany iM_orderSum iM_leastOrder rM_often iM_setMany iM_someOf iM_allOf iM_allWeight iM_enoughWeight iM_worthSum iM_firstRest iM_leastDrawn)]) rfl
      have hFc := va_freeM hD hS hA _ hMs
      refine va_calli (va_runV (As := [.int 1]) (rest := []) ⟨hx, hb, hml, hown, hts⟩ (tX7_no l dC dI _ oM x_7115 rM_tape iM_taped iM_size iM_at iM_end iM_token iM_whole iM_nameSize iM_fault iM_place x_7116 rM_letters iM_failed iM_hasCourt rM_r rM_fresh rM_told rM_read rM_st rM_undone rM_kept iM_undos iM_images rM_fresher iM_fresherSize iM_scale iM_night rM_heardRow rM_cutRow iM_breaths iM_cutMany iM_allBreaths rM_trial rM_words iM_fewestBreaths iM_orderMany iM_orderSum iM_leastOrder rM_often iM_setMany iM_someOf iM_allOf iM_allWeight iM_enoughWeight iM_worthSum iM_firstRest iM_leastDrawn 1 b_iM_taped b_iM_size b_iM_end b_iM_failed b_iM_hasCourt b_iM_undos b_iM_images b_iM_scale b_iM_breaths b_iM_cutMany) (cwV 1 hts (wd_V wd_396 wd_397 wd_398 wd_5 (wd_c wd_399)) rfl rfl rfl dv_yX7_no_1 ⟨Nat.le_of_ble_eq_true rfl, Nat.le_of_ble_eq_true rfl⟩) ⟨Pw.fb, recvX7 hK hP (q0 := 0) rfl, fun U hU hW => Pw.to (hP.ms _ hMs) (hD.ms _ hMs) (hK.ms [false, false, false] rfl) hE hS hFc hU hW⟩ rfl rfl hl.1 rfl (lv_room (Nat.le_of_ble_eq_true rfl)) dX7_lineAt_17 ⟨Nat.le_of_ble_eq_true rfl, Nat.le_of_ble_eq_true rfl⟩) hS (fun q _ h => hFc q h) hFc (fun r u t H locs ht hvm hw hB hz1 hk1 hS => ?_)
      have hru9 := hw.2
      have hw := hw.1
      refine ex_1_1 hB (fun x_7121 e_x_7121_0 hB => ?_)
      obtain ⟨hP, hD⟩ := Bw.goN (ws' := [(oc7 oM x_7115 rM_tape iM_taped iM_size iM_at iM_end iM_token iM_whole iM_nameSize iM_fault iM_place x_7121 rM_letters iM_failed iM_hasCourt rM_r rM_fresh rM_told rM_read rM_st rM_undone rM_kept iM_undos iM_images rM_fresher iM_fresherSize iM_scale iM_night rM_heardRow rM_cutRow iM_breaths iM_cutMany iM_allBreaths rM_trial rM_words iM_fewestBreaths iM_orderMany iM_orderSum iM_leastOrder rM_often iM_setMany iM_someOf iM_allOf iM_allWeight iM_enoughWeight iM_worthSum iM_firstRest iM_leastDrawn), (arI rM_r kM_r 287 fM_r), (arI rM_told kM_told 90 fM_told), (arI rM_st kM_st 90 fM_st)]) hB rfl ht hP hD _ hMs hk1 hFc rfl
      clear hz1 hk1 hvm ht hB hMs
      have rg_x_7121 := fb_rng x_7121
      rw [← hru9] at e_x_7121_0
      obtain ⟨x_7122, rfl⟩ : ∃ z, z = r := ⟨_, rfl⟩
      have hG := hG.trans (un2_eq e_x_7121_0)
      have rg_x_7122 := fb_rng x_7122
      exact wq_i hx hb hr (cI x_7122) ⟨⟨trivial, trivial⟩, (cI_of x_7122)⟩ (fun t ht hW => ⟨x_7115, x_7121, (cI_tup hG), Bw.to hP hD hK ht hW⟩) hS dX7_lineAt_20 hlocks
    · skip
      have hG := hG.trans (if_neg c_7120)
      have gc_7120 := ti_ne c_7120 rfl kc_0
      replace gc_7120 : (-1) * iM_hasCourt.toInt + 1 ≤ 0 := om_e3003f79 gc_7120 b_iM_hasCourt.1
      refine lv_iload_n hx hb dX7_lineAt_11 rfl (lv_at hl 1 rfl) ?_
      refine lv_if_ge (tgt := 21) hx hb dX7_lineAt_12 (by decide) (fun c_7123 => ?_) (fun c_7123 => ?_)
      · skip
        have hG := hG.trans (if_pos c_7123)
        have gc_7123 := ti_le c_7123 kc_0 rfl
        refine lv_aload_n hx hb dX7_lineAt_21 rfl (lv_at hl 0 rfl) ?_
        refine va_get (D := (dC, dI)) (ci := 7) (v := .ref rM_r) (C := RX7) (T := TX7) (N := 48) hx hb hts inX7 hown hK hP 0 rfl rfl 15 (by decide) (hts _ wd_155) (fun _ h9 => h9) rfl dX7_lineAt_22 ?_
        refine lv_bipush (v := 6) hx hb dX7_lineAt_25 (by decide) ?_
        refine va_iald hx hb hK hP 1 0 rfl rfl (by unfold vp_in; decide) dX7_lineAt_27 ?_
        refine lv_topi (fun x_7124 ex_7124 => ?_)
        have hG := hG.trans (lt_eq ex_7124)
        have rg_x_7124 := fb_rng x_7124
        have cx_7124 : (fM_r 6).toInt = x_7124.toInt := congrArg Int32.toInt (show fM_r 6 = x_7124 from ex_7124.symm)
        refine lv_istore_n (lv' := [(2, .int x_7124), (0, .ref oM), (1, .int p0)]) hx hb dX7_lineAt_28 rfl hl (by decide) rfl (fun ls hl => ?_)
        refine lv_iconst (v := 0) hx hb dX7_lineAt_29 (by decide) ?_
        refine lv_istore_n (lv' := [(3, .int 0), (2, .int x_7124), (0, .ref oM), (1, .int p0)]) hx hb dX7_lineAt_30 rfl hl (by decide) rfl (fun ls hl => ?_)
        have hl := lv_sub hl (l' := [(3, .int 0), (2, .int x_7124), (0, .ref oM), (1, .int p0)]) [0, 1, 2, 3] rfl
        have key_n_7127 : ∀ (n_7127 : Nat) (z_7125 : Int32) (z_7126 : Int32) (H : Heap) (locs : List Loc) (ls : Array Slot), (-2 ≤ z_7125.toInt ∧ z_7125.toInt < (fM_r 1).toInt) → (z_7125.toInt + 3).toNat < n_7127 → (PX7_lineAt iM_hasCourt fM_r fM_told fM_st iM_scale iM_night p0 = HX7_lineAt_0 fM_r fM_told fM_st iM_scale iM_night p0 x_7115 x_7116 n_7127 z_7125 z_7126) → va_P (dC, dI) vwCl [(oc7 oM x_7115 rM_tape iM_taped iM_size iM_at iM_end iM_token iM_whole iM_nameSize iM_fault iM_place x_7116 rM_letters iM_failed iM_hasCourt rM_r rM_fresh rM_told rM_read rM_st rM_undone rM_kept iM_undos iM_images rM_fresher iM_fresherSize iM_scale iM_night rM_heardRow rM_cutRow iM_breaths iM_cutMany iM_allBreaths rM_trial rM_words iM_fewestBreaths iM_orderMany iM_orderSum iM_leastOrder rM_often iM_setMany iM_someOf iM_allOf iM_allWeight iM_enoughWeight iM_worthSum iM_firstRest iM_leastDrawn), (arI rM_r kM_r 287 fM_r), (arI rM_told kM_told 90 fM_told), (arI rM_st kM_st 90 fM_st)] H → va_D A [(oc7 oM x_7115 rM_tape iM_taped iM_size iM_at iM_end iM_token iM_whole iM_nameSize iM_fault iM_place x_7116 rM_letters iM_failed iM_hasCourt rM_r rM_fresh rM_told rM_read rM_st rM_undone rM_kept iM_undos iM_images rM_fresher iM_fresherSize iM_scale iM_night rM_heardRow rM_cutRow iM_breaths iM_cutMany iM_allBreaths rM_trial rM_words iM_fewestBreaths iM_orderMany iM_orderSum iM_leastOrder rM_often iM_setMany iM_someOf iM_allOf iM_allWeight iM_enoughWeight iM_worthSum iM_firstRest iM_leastDrawn), (arI rM_r kM_r 287 fM_r), (arI rM_told kM_told 90 fM_told), (arI rM_st kM_st 90 fM_st)] → va_S A s.heap H locs → lv_has ls 4 [(3, .int z_7126), (2, .int z_7125), (0, .ref oM), (1, .int p0)] → W p l e (headSpec (Cond.code yX7_lineAt cX7_lineAt 4 (some .int) :: wG) ({ frames := 22, cells := 0, slots := 0, locals := 586 })).room s m ([.ref oM, .int p0] : List Value).toArray below meth c H locs 0 0 (MQ below (va_Qi (fun (r : Int32) (u : Nat) => (True ∧ True) ∧ r = Int32.ofNat u) (fun (u : Nat) (t : State) => ∃ (niM_thrown : Int32) (niM_trouble : Int32), (PX7_lineAt iM_hasCourt fM_r fM_told fM_st iM_scale iM_night p0 = (Int32.ofNat u, niM_thrown, niM_trouble)) ∧ Bw dC dI A [(oc7 oM niM_thrown rM_tape iM_taped iM_size iM_at iM_end iM_token iM_whole iM_nameSize iM_fault iM_place niM_trouble rM_letters iM_failed iM_hasCourt rM_r rM_fresh rM_told rM_read rM_st rM_undone rM_kept iM_undos iM_images rM_fresher iM_fresherSize iM_scale iM_night rM_heardRow rM_cutRow iM_breaths iM_cutMany iM_allBreaths rM_trial rM_words iM_fewestBreaths iM_orderMany iM_orderSum iM_leastOrder rM_often iM_setMany iM_someOf iM_allOf iM_allWeight iM_enoughWeight iM_worthSum iM_firstRest iM_leastDrawn), (arI rM_r kM_r 287 fM_r), (arI rM_told kM_told 90 fM_told), (arI rM_st kM_st 90 fM_st)] [(kM_r, .int), (kM_told, .int), (kM_st, .int)] t) A) ([.ref oM, .int p0] : List Value).toArray s 0 0 A) (F0 m 31 ls []) := by
          intro n_7127
          induction n_7127 with
          | zero => intro z_7125 z_7126 H locs ls hi0_n_7127 hm; exact absurd hm (Nat.not_lt_zero _)
          | succ n_7127 ih_n_7127 =>
            intro z_7125 z_7126 H locs ls hi0_n_7127 hm_n_7127 hG hP hD hS hl
            have hG := hG.trans (HX7_lineAt_0_eq _ _ _ _ _ _ _ _ _ _ _)
            have rg_z_7125 := fb_rng z_7125
            have rg_z_7126 := fb_rng z_7126
            refine lv_iload_n hx hb dX7_lineAt_31 rfl (lv_at hl 0 rfl) ?_
            refine lv_iload_n hx hb dX7_lineAt_32 rfl (lv_at hl 3 rfl) ?_
            refine lv_icmp_ge (tgt := 52) hx hb dX7_lineAt_33 (by decide) (fun c_7128 => ?_) (fun c_7128 => ?_)
            · skip
              have hG := hG.trans (if_pos c_7128)
              have gc_7128 := ti_le c_7128 rfl rfl
              refine lv_iload_n hx hb dX7_lineAt_52 rfl (lv_at hl 1 rfl) ?_
              refine lv_if_ge (tgt := 64) hx hb dX7_lineAt_53 (by decide) (fun c_7129 => ?_) (fun c_7129 => ?_)
              · skip
                have hG := hG.trans (if_pos c_7129)
                have gc_7129 := ti_le c_7129 kc_0 rfl
                refine lv_iload_n hx hb dX7_lineAt_64 rfl (lv_at hl 1 rfl) ?_
                exact wq_i hx hb hr (cI z_7125) ⟨⟨trivial, trivial⟩, (cI_of z_7125)⟩ (fun t ht hW => ⟨x_7115, x_7116, (cI_tup hG), Bw.to hP hD hK ht hW⟩) hS dX7_lineAt_65 hlocks
              · skip
                have hG := hG.trans (if_neg c_7129)
                have gc_7129 := ti_nle c_7129 kc_0 rfl
                refine lv_aload_n hx hb dX7_lineAt_56 rfl (lv_at hl 2 rfl) ?_
                refine lv_iconst (v := 1) hx hb dX7_lineAt_57 (by decide) ?_
                have hMs := ml_of hD [true, false, false, false] (wc := [(oc7 oM x_7115 rM_tape iM_taped iM_size iM_at iM_end iM_token iM_whole iM_nameSize iM_fault iM_place x_7116 rM_letters iM_failed iM_hasCourt rM_r rM_fresh rM_told rM_read rM_st rM_undone rM_kept iM_undos iM_images rM_fresher iM_fresherSize iM_scale iM_night rM_heardRow rM_cutRow iM_breaths iM_cutMany iM_allBreaths rM_trial rM_words iM_fewestBreaths iM_orderMany iM_orderSum iM_leastOrder rM_often iM_setMany iM_someOf iM_allOf iM_allWeight iM_enoughWeight iM_worthSum iM_firstRest iM_leastDrawn)]) rfl
                have hFc := va_freeM hD hS hA _ hMs
                refine va_calli (va_runV (As := [.int 1]) (rest := []) ⟨hx, hb, hml, hown, hts⟩ (tX7_no l dC dI _ oM x_7115 rM_tape iM_taped iM_size iM_at iM_end iM_token iM_whole iM_nameSize iM_fault iM_place x_7116 rM_letters iM_failed iM_hasCourt rM_r rM_fresh rM_told rM_read rM_st rM_undone rM_kept iM_undos iM_images rM_fresher iM_fresherSize iM_scale iM_night rM_heardRow rM_cutRow iM_breaths iM_cutMany iM_allBreaths rM_trial rM_words iM_fewestBreaths iM_orderMany iM_orderSum iM_leastOrder rM_often iM_setMany iM_someOf iM_allOf iM_allWeight iM_enoughWeight iM_worthSum iM_firstRest iM_leastDrawn 1 b_iM_taped b_iM_size b_iM_end b_iM_failed b_iM_hasCourt b_iM_undos b_iM_images b_iM_scale b_iM_breaths b_iM_cutMany) (cwV 1 hts (wd_V wd_396 wd_397 wd_398 wd_5 (wd_c wd_399)) rfl rfl rfl dv_yX7_no_1 ⟨Nat.le_of_ble_eq_true rfl, Nat.le_of_ble_eq_true rfl⟩) ⟨Pw.fb, recvX7 hK hP (q0 := 0) rfl, fun U hU hW => Pw.to (hP.ms _ hMs) (hD.ms _ hMs) (hK.ms [false, false, false] rfl) hE hS hFc hU hW⟩ rfl rfl hl.1 rfl (lv_room (Nat.le_of_ble_eq_true rfl)) dX7_lineAt_58 ⟨Nat.le_of_ble_eq_true rfl, Nat.le_of_ble_eq_true rfl⟩) hS (fun q _ h => hFc q h) hFc (fun r u t H locs ht hvm hw hB hz1 hk1 hS => ?_)
                have hru9 := hw.2
                have hw := hw.1
                refine ex_1_1 hB (fun x_7130 e_x_7130_0 hB => ?_)
                obtain ⟨hP, hD⟩ := Bw.goN (ws' := [(oc7 oM x_7115 rM_tape iM_taped iM_size iM_at iM_end iM_token iM_whole iM_nameSize iM_fault iM_place x_7130 rM_letters iM_failed iM_hasCourt rM_r rM_fresh rM_told rM_read rM_st rM_undone rM_kept iM_undos iM_images rM_fresher iM_fresherSize iM_scale iM_night rM_heardRow rM_cutRow iM_breaths iM_cutMany iM_allBreaths rM_trial rM_words iM_fewestBreaths iM_orderMany iM_orderSum iM_leastOrder rM_often iM_setMany iM_someOf iM_allOf iM_allWeight iM_enoughWeight iM_worthSum iM_firstRest iM_leastDrawn), (arI rM_r kM_r 287 fM_r), (arI rM_told kM_told 90 fM_told), (arI rM_st kM_st 90 fM_st)]) hB rfl ht hP hD _ hMs hk1 hFc rfl
                clear hz1 hk1 hvm ht hB hMs
                have rg_x_7130 := fb_rng x_7130
                rw [← hru9] at e_x_7130_0
                obtain ⟨x_7131, rfl⟩ : ∃ z, z = r := ⟨_, rfl⟩
                have hG := hG.trans (un2_eq e_x_7130_0)
                have rg_x_7131 := fb_rng x_7131
                refine lv_goto (tgt := 65) hx hb dX7_lineAt_61 (by decide) ?_
                exact wq_i hx hb hr (cI x_7131) ⟨⟨trivial, trivial⟩, (cI_of x_7131)⟩ (fun t ht hW => ⟨x_7115, x_7130, (cI_tup hG), Bw.to hP hD hK ht hW⟩) hS dX7_lineAt_65 hlocks
            · skip
              have hG := hG.trans (if_neg c_7128)
              have gc_7128 := ti_nle c_7128 rfl rfl
              refine lv_iload_n hx hb dX7_lineAt_36 rfl (lv_at hl 1 rfl) ?_
              refine lv_if_lt (tgt := 52) hx hb dX7_lineAt_37 (by decide) (fun c_7132 => ?_) (fun c_7132 => ?_)
              · skip
                have hG := hG.trans (if_pos c_7132)
                have gc_7132 := ti_lt c_7132 rfl kc_0
                refine lv_iload_n hx hb dX7_lineAt_52 rfl (lv_at hl 1 rfl) ?_
                refine lv_if_ge (tgt := 64) hx hb dX7_lineAt_53 (by decide) (fun c_7133 => ?_) (fun c_7133 => ?_)
                · skip
                  have hG := hG.trans (if_pos c_7133)
                  have gc_7133 := ti_le c_7133 kc_0 rfl
                  exact ((om_735be106 gc_7132 gc_7133)).elim
                · skip
                  have hG := hG.trans (if_neg c_7133)
                  have gc_7133 := ti_nle c_7133 kc_0 rfl
                  refine lv_aload_n hx hb dX7_lineAt_56 rfl (lv_at hl 2 rfl) ?_
                  refine lv_iconst (v := 1) hx hb dX7_lineAt_57 (by decide) ?_
                  have hMs := ml_of hD [true, false, false, false] (wc := [(oc7 oM x_7115 rM_tape iM_taped iM_size iM_at iM_end iM_token iM_whole iM_nameSize iM_fault iM_place x_7116 rM_letters iM_failed iM_hasCourt rM_r rM_fresh rM_told rM_read rM_st rM_undone rM_kept iM_undos iM_images rM_fresher iM_fresherSize iM_scale iM_night rM_heardRow rM_cutRow iM_breaths iM_cutMany iM_allBreaths rM_trial rM_words iM_fewestBreaths iM_orderMany iM_orderSum iM_leastOrder rM_often iM_setMany iM_someOf iM_allOf iM_allWeight iM_enoughWeight iM_worthSum iM_firstRest iM_leastDrawn)]) rfl
                  have hFc := va_freeM hD hS hA _ hMs
                  refine va_calli (va_runV (As := [.int 1]) (rest := []) ⟨hx, hb, hml, hown, hts⟩ (tX7_no l dC dI _ oM x_7115 rM_tape iM_taped iM_size iM_at iM_end iM_token iM_whole iM_nameSize iM_fault iM_place x_7116 rM_letters iM_failed iM_hasCourt rM_r rM_fresh rM_told rM_read rM_st rM_undone rM_kept iM_undos iM_images rM_fresher iM_fresherSize iM_scale iM_night rM_heardRow rM_cutRow iM_breaths iM_cutMany iM_allBreaths rM_trial rM_words iM_fewestBreaths iM_orderMany iM_orderSum iM_leastOrder rM_often iM_setMany iM_someOf iM_allOf iM_allWeight iM_enoughWeight iM_worthSum iM_firstRest iM_leastDrawn 1 b_iM_taped b_iM_size b_iM_end b_iM_failed b_iM_hasCourt b_iM_undos b_iM_images b_iM_scale b_iM_breaths b_iM_cutMany) (cwV 1 hts (wd_V wd_396 wd_397 wd_398 wd_5 (wd_c wd_399)) rfl rfl rfl dv_yX7_no_1 ⟨Nat.le_of_ble_eq_true rfl, Nat.le_of_ble_eq_true rfl⟩) ⟨Pw.fb, recvX7 hK hP (q0 := 0) rfl, fun U hU hW => Pw.to (hP.ms _ hMs) (hD.ms _ hMs) (hK.ms [false, false, false] rfl) hE hS hFc hU hW⟩ rfl rfl hl.1 rfl (lv_room (Nat.le_of_ble_eq_true rfl)) dX7_lineAt_58 ⟨Nat.le_of_ble_eq_true rfl, Nat.le_of_ble_eq_true rfl⟩) hS (fun q _ h => hFc q h) hFc (fun r u t H locs ht hvm hw hB hz1 hk1 hS => ?_)
                  have hru9 := hw.2
                  have hw := hw.1
                  refine ex_1_1 hB (fun x_7134 e_x_7134_0 hB => ?_)
                  obtain ⟨hP, hD⟩ := Bw.goN (ws' := [(oc7 oM x_7115 rM_tape iM_taped iM_size iM_at iM_end iM_token iM_whole iM_nameSize iM_fault iM_place x_7134 rM_letters iM_failed iM_hasCourt rM_r rM_fresh rM_told rM_read rM_st rM_undone rM_kept iM_undos iM_images rM_fresher iM_fresherSize iM_scale iM_night rM_heardRow rM_cutRow iM_breaths iM_cutMany iM_allBreaths rM_trial rM_words iM_fewestBreaths iM_orderMany iM_orderSum iM_leastOrder rM_often iM_setMany iM_someOf iM_allOf iM_allWeight iM_enoughWeight iM_worthSum iM_firstRest iM_leastDrawn), (arI rM_r kM_r 287 fM_r), (arI rM_told kM_told 90 fM_told), (arI rM_st kM_st 90 fM_st)]) hB rfl ht hP hD _ hMs hk1 hFc rfl
                  clear hz1 hk1 hvm ht hB hMs
                  have rg_x_7134 := fb_rng x_7134
                  rw [← hru9] at e_x_7134_0
                  obtain ⟨x_7135, rfl⟩ : ∃ z, z = r := ⟨_, rfl⟩
                  have hG := hG.trans (un2_eq e_x_7134_0)
                  have rg_x_7135 := fb_rng x_7135
                  refine lv_goto (tgt := 65) hx hb dX7_lineAt_61 (by decide) ?_
                  exact wq_i hx hb hr (cI x_7135) ⟨⟨trivial, trivial⟩, (cI_of x_7135)⟩ (fun t ht hW => ⟨x_7115, x_7134, (cI_tup hG), Bw.to hP hD hK ht hW⟩) hS dX7_lineAt_65 hlocks
              · skip
                have hG := hG.trans (if_neg c_7132)
                have gc_7132 := ti_nlt c_7132 rfl kc_0
                refine lv_aload_n hx hb dX7_lineAt_40 rfl (lv_at hl 2 rfl) ?_
                refine lv_iload_n hx hb dX7_lineAt_41 rfl (lv_at hl 1 rfl) ?_
                have rg_iM_night := fb_rng iM_night
                have hFc := va_freeI hD hS hA
                refine va_calli (va_runV (As := [.int z_7125]) (rest := []) ⟨hx, hb, hml, hown, hts⟩ (tX7_bestOf l dC dI _ oM x_7115 rM_tape iM_taped iM_size iM_at iM_end iM_token iM_whole iM_nameSize iM_fault iM_place x_7116 rM_letters iM_failed iM_hasCourt rM_r fM_r kM_r rM_fresh rM_told fM_told kM_told rM_read rM_st fM_st kM_st rM_undone rM_kept iM_undos iM_images rM_fresher iM_fresherSize iM_scale iM_night rM_heardRow rM_cutRow iM_breaths iM_cutMany iM_allBreaths rM_trial rM_words iM_fewestBreaths iM_orderMany iM_orderSum iM_leastOrder rM_often iM_setMany iM_someOf iM_allOf iM_allWeight iM_enoughWeight iM_worthSum iM_firstRest iM_leastDrawn z_7125 b_iM_taped b_iM_size b_iM_end b_iM_failed b_iM_hasCourt b_iM_undos b_iM_images b_iM_scale b_iM_breaths b_iM_cutMany (by assumption) (by assumption) (by assumption) (by assumption) (by assumption) ⟨gc_7132, hi0_n_7127.2⟩ hnt) (cwV 1 hts (wd_V wd_670 wd_671 wd_672 wd_5 (wd_c wd_673)) rfl rfl rfl dv_yX7_bestOf_1 ⟨Nat.le_of_ble_eq_true rfl, Nat.le_of_ble_eq_true rfl⟩) ⟨Pw.fb, recvX7 hK hP (q0 := 0) rfl, fun U hU hW => Pw.to hP hD hK hE hS hFc hU hW⟩ rfl rfl hl.1 rfl (lv_room (Nat.le_of_ble_eq_true rfl)) dX7_lineAt_42 ⟨Nat.le_of_ble_eq_true rfl, Nat.le_of_ble_eq_true rfl⟩) hS (fun q _ h => hFc q h) hFc (fun r u t H locs ht hvm hw hB hz1 hk1 hS => ?_)
                have hru9 := hw.2
                have hw := hw.1
                obtain ⟨hP, hD⟩ := Bw.goA (ws' := [(oc7 oM x_7115 rM_tape iM_taped iM_size iM_at iM_end iM_token iM_whole iM_nameSize iM_fault iM_place x_7116 rM_letters iM_failed iM_hasCourt rM_r rM_fresh rM_told rM_read rM_st rM_undone rM_kept iM_undos iM_images rM_fresher iM_fresherSize iM_scale iM_night rM_heardRow rM_cutRow iM_breaths iM_cutMany iM_allBreaths rM_trial rM_words iM_fewestBreaths iM_orderMany iM_orderSum iM_leastOrder rM_often iM_setMany iM_someOf iM_allOf iM_allWeight iM_enoughWeight iM_worthSum iM_firstRest iM_leastDrawn), (arI rM_r kM_r 287 fM_r), (arI rM_told kM_told 90 fM_told), (arI rM_st kM_st 90 fM_st)]) hB rfl ht hFc rfl
                clear hz1 hk1 hvm ht hB
                obtain ⟨x_7136, rfl⟩ : ∃ z, z = r := ⟨_, rfl⟩
                have hG := hG.trans (lt_eq hru9.symm)
                have rg_x_7136 := fb_rng x_7136
                have lx_7136 := hw.2
                have ux_7136 := hw.2
                refine lv_istore_n (lv' := [(2, .int x_7136), (3, .int z_7126), (0, .ref oM), (1, .int p0)]) hx hb dX7_lineAt_45 rfl hl (by decide) rfl (fun ls hl => ?_)
                obtain ⟨x_7137, ex_7137⟩ : ∃ z : Int32, z = z_7126 + Int32.ofInt 1 := ⟨_, rfl⟩
                have hG := hG.trans (lt_eq ex_7137)
                have vx_7137 : x_7137.toInt = z_7126.toInt + 1 := ti_add (y := 1) ex_7137 rfl kc_1 (om_81d93db8 rg_z_7126.1) (om_219cd8d8 rg_p0.2 gc_7128)
                refine lv_iinc (v := x_7137) (lv' := [(3, .int x_7137), (2, .int x_7136), (0, .ref oM), (1, .int p0)]) hx hb dX7_lineAt_46 hl (k := 1) rfl ex_7137.symm (by decide) rfl (fun ls hl => ?_)
                refine lv_goto (tgt := 31) hx hb dX7_lineAt_49 (by decide) ?_
                exact ih_n_7127 x_7136 x_7137 _ _ _  ⟨lx_7136.1, (om_90a71968 hi0_n_7127.2 lx_7136.2.1)⟩ (ms_lt hm_n_7127 (om_27cbe1c0 lx_7136.2.1) (om_9734b4e0 hi0_n_7127.1)) hG hP hD hS (lv_sub hl [0, 1, 2, 3] rfl)
        exact key_n_7127 (((x_7124.toInt + 3).toNat) + 1) x_7124 0 _ _ _  ⟨(om_cad2a9ff r_C1.2.1 cx_7124), (om_21cef2c6 r_C1.2.2 cx_7124)⟩ (Nat.lt_add_one _) hG hP hD hS hl
      · skip
        have hG := hG.trans (if_neg c_7123)
        have gc_7123 := ti_nle c_7123 kc_0 rfl
        refine lv_aload_n hx hb dX7_lineAt_15 rfl (lv_at hl 0 rfl) ?_
        refine lv_iconst (v := 1) hx hb dX7_lineAt_16 (by decide) ?_
        have hMs := ml_of hD [true, false, false, false] (wc := [(oc7 oM x_7115 rM_tape iM_taped iM_size iM_at iM_end iM_token iM_whole iM_nameSize iM_fault iM_place x_7116 rM_letters iM_failed iM_hasCourt rM_r rM_fresh rM_told rM_read rM_st rM_undone rM_kept iM_undos iM_images rM_fresher iM_fresherSize iM_scale iM_night rM_heardRow rM_cutRow iM_breaths iM_cutMany iM_allBreaths rM_trial rM_words iM_fewestBreaths iM_orderMany iM_orderSum iM_leastOrder rM_often iM_setMany iM_someOf iM_allOf iM_allWeight iM_enoughWeight iM_worthSum iM_firstRest iM_leastDrawn)]) rfl
        have hFc := va_freeM hD hS hA _ hMs
        refine va_calli (va_runV (As := [.int 1]) (rest := []) ⟨hx, hb, hml, hown, hts⟩ (tX7_no l dC dI _ oM x_7115 rM_tape iM_taped iM_size iM_at iM_end iM_token iM_whole iM_nameSize iM_fault iM_place x_7116 rM_letters iM_failed iM_hasCourt rM_r rM_fresh rM_told rM_read rM_st rM_undone rM_kept iM_undos iM_images rM_fresher iM_fresherSize iM_scale iM_night rM_heardRow rM_cutRow iM_breaths iM_cutMany iM_allBreaths rM_trial rM_words iM_fewestBreaths iM_orderMany iM_orderSum iM_leastOrder rM_often iM_setMany iM_someOf iM_allOf iM_allWeight iM_enoughWeight iM_worthSum iM_firstRest iM_leastDrawn 1 b_iM_taped b_iM_size b_iM_end b_iM_failed b_iM_hasCourt b_iM_undos b_iM_images b_iM_scale b_iM_breaths b_iM_cutMany) (cwV 1 hts (wd_V wd_396 wd_397 wd_398 wd_5 (wd_c wd_399)) rfl rfl rfl dv_yX7_no_1 ⟨Nat.le_of_ble_eq_true rfl, Nat.le_of_ble_eq_true rfl⟩) ⟨Pw.fb, recvX7 hK hP (q0 := 0) rfl, fun U hU hW => Pw.to (hP.ms _ hMs) (hD.ms _ hMs) (hK.ms [false, false, false] rfl) hE hS hFc hU hW⟩ rfl rfl hl.1 rfl (lv_room (Nat.le_of_ble_eq_true rfl)) dX7_lineAt_17 ⟨Nat.le_of_ble_eq_true rfl, Nat.le_of_ble_eq_true rfl⟩) hS (fun q _ h => hFc q h) hFc (fun r u t H locs ht hvm hw hB hz1 hk1 hS => ?_)
        have hru9 := hw.2
        have hw := hw.1
        refine ex_1_1 hB (fun x_7138 e_x_7138_0 hB => ?_)
        obtain ⟨hP, hD⟩ := Bw.goN (ws' := [(oc7 oM x_7115 rM_tape iM_taped iM_size iM_at iM_end iM_token iM_whole iM_nameSize iM_fault iM_place x_7138 rM_letters iM_failed iM_hasCourt rM_r rM_fresh rM_told rM_read rM_st rM_undone rM_kept iM_undos iM_images rM_fresher iM_fresherSize iM_scale iM_night rM_heardRow rM_cutRow iM_breaths iM_cutMany iM_allBreaths rM_trial rM_words iM_fewestBreaths iM_orderMany iM_orderSum iM_leastOrder rM_often iM_setMany iM_someOf iM_allOf iM_allWeight iM_enoughWeight iM_worthSum iM_firstRest iM_leastDrawn), (arI rM_r kM_r 287 fM_r), (arI rM_told kM_told 90 fM_told), (arI rM_st kM_st 90 fM_st)]) hB rfl ht hP hD _ hMs hk1 hFc rfl
        clear hz1 hk1 hvm ht hB hMs
        have rg_x_7138 := fb_rng x_7138
        rw [← hru9] at e_x_7138_0
        obtain ⟨x_7139, rfl⟩ : ∃ z, z = r := ⟨_, rfl⟩
        have hG := hG.trans (un2_eq e_x_7138_0)
        have rg_x_7139 := fb_rng x_7139
        exact wq_i hx hb hr (cI x_7139) ⟨⟨trivial, trivial⟩, (cI_of x_7139)⟩ (fun t ht hW => ⟨x_7115, x_7138, (cI_tup hG), Bw.to hP hD hK ht hW⟩) hS dX7_lineAt_20 hlocks
set_option maxHeartbeats 4000000 in
set_option maxRecDepth 100000 in
theorem tX7_court (l : Launch) (dC : Nat → ClassId) (dI : Nat → Nat → Nat) (sz : Nat) (oM : Nat) (iM_thrown : Int32) (rM_tape : Nat) (fM_tape : Nat → Int32) (kM_tape : ClassId) (iM_taped : Int32) (iM_size : Int32) (iM_at : Int32) (iM_end : Int32) (iM_token : Int32) (iM_whole : Int32) (iM_nameSize : Int32) (iM_fault : Int32) (iM_place : Int32) (iM_trouble : Int32) (rM_letters : Nat) (fM_letters : Nat → Int32) (kM_letters : ClassId) (iM_failed : Int32) (iM_hasCourt : Int32) (rM_r : Nat) (fM_r : Nat → Int32) (kM_r : ClassId) (rM_fresh : Nat) (fM_fresh : Nat → Int32) (kM_fresh : ClassId) (rM_told : Nat) (fM_told : Nat → Int32) (kM_told : ClassId) (rM_read : Nat) (fM_read : Nat → Int32) (kM_read : ClassId) (rM_st : Nat) (fM_st : Nat → Int32) (kM_st : ClassId) (rM_undone : Nat) (fM_undone : Nat → Int32) (kM_undone : ClassId) (rM_kept : Nat) (fM_kept : Nat → Int32) (kM_kept : ClassId) (iM_undos : Int32) (iM_images : Int32) (rM_fresher : Nat) (fM_fresher : Nat → Int32) (kM_fresher : ClassId) (iM_fresherSize : Int32) (iM_scale : Int32) (iM_night : Int32) (rM_heardRow : Nat) (rM_cutRow : Nat) (iM_breaths : Int32) (iM_cutMany : Int32) (iM_allBreaths : Int32) (rM_trial : Nat) (rM_words : Nat) (iM_fewestBreaths : Int32) (iM_orderMany : Int32) (iM_orderSum : Int32) (iM_leastOrder : Int32) (rM_often : Nat) (iM_setMany : Int32) (iM_someOf : Int32) (iM_allOf : Int32) (iM_allWeight : Int64) (iM_enoughWeight : Int64) (iM_worthSum : Int64) (iM_firstRest : Int32) (iM_leastDrawn : Int32) (p0 : Int32) (b_iM_taped : 0 ≤ iM_taped.toInt ∧ iM_taped.toInt ≤ 900) (b_iM_size : 0 ≤ iM_size.toInt ∧ iM_size.toInt ≤ 900) (b_iM_end : 0 ≤ iM_end.toInt ∧ iM_end.toInt ≤ 900) (b_iM_nameSize : 0 ≤ iM_nameSize.toInt ∧ iM_nameSize.toInt ≤ 900) (b_iM_failed : 0 ≤ iM_failed.toInt ∧ iM_failed.toInt ≤ 1) (b_iM_hasCourt : 0 ≤ iM_hasCourt.toInt ∧ iM_hasCourt.toInt ≤ 1) (b_iM_undos : 0 ≤ iM_undos.toInt ∧ iM_undos.toInt ≤ 16) (b_iM_images : 0 ≤ iM_images.toInt ∧ iM_images.toInt ≤ 3) (b_iM_scale : 1 ≤ iM_scale.toInt ∧ iM_scale.toInt ≤ 1296) (b_iM_breaths : 0 ≤ iM_breaths.toInt ∧ iM_breaths.toInt ≤ 399) (b_iM_cutMany : 0 ≤ iM_cutMany.toInt ∧ iM_cutMany.toInt ≤ 399) (r_R : ROk fM_r) (r_C : iM_hasCourt.toInt ≤ 0 ∨ (1 ≤ (fM_r 1).toInt ∧ 0 ≤ (fM_r 6).toInt ∧ (fM_r 6).toInt < (fM_r 1).toInt)) (r_st : RowOk fM_r fM_st) (r_told : RowOk fM_r fM_told) (r_wst : WorOk fM_st) (r_un : HistOk fM_r fM_undone iM_undos.toInt) (r_ke : HistOk fM_r fM_kept iM_images.toInt) (r_T : ImpP (iM_token.toInt = 2) (iM_nameSize.toInt ≤ 8))  : Met l yX7_court (Cond.code yX7_court cX7_court 3 (some .int) :: wG) ({ frames := 10, cells := 0, slots := 0, locals := 240 }) (va_Pc [.ref oM, .int p0] (Pw dC dI sz [(oc7 oM iM_thrown rM_tape iM_taped iM_size iM_at iM_end iM_token iM_whole iM_nameSize iM_fault iM_place iM_trouble rM_letters iM_failed iM_hasCourt rM_r rM_fresh rM_told rM_read rM_st rM_undone rM_kept iM_undos iM_images rM_fresher iM_fresherSize iM_scale iM_night rM_heardRow rM_cutRow iM_breaths iM_cutMany iM_allBreaths rM_trial rM_words iM_fewestBreaths iM_orderMany iM_orderSum iM_leastOrder rM_often iM_setMany iM_someOf iM_allOf iM_allWeight iM_enoughWeight iM_worthSum iM_firstRest iM_leastDrawn), (arI rM_tape kM_tape 900 fM_tape), (arI rM_letters kM_letters 8 fM_letters), (arI rM_r kM_r 287 fM_r), (arI rM_fresh kM_fresh 287 fM_fresh), (arI rM_told kM_told 90 fM_told), (arI rM_read kM_read 90 fM_read), (arI rM_st kM_st 90 fM_st), (arI rM_undone kM_undone 1440 fM_undone), (arI rM_kept kM_kept 270 fM_kept), (arI rM_fresher kM_fresher 8 fM_fresher)] [(kM_tape, .int), (kM_letters, .int), (kM_r, .int), (kM_fresh, .int), (kM_told, .int), (kM_read, .int), (kM_st, .int), (kM_undone, .int), (kM_kept, .int), (kM_fresher, .int)])) (va_Qi (fun (r : Int32) (u : Nat) => (True ∧ True) ∧ r = Int32.ofNat u) (fun (u : Nat) (t : State) => ∃ (niM_thrown : Int32) (niM_taped : Int32) (niM_size : Int32) (niM_at : Int32) (niM_end : Int32) (niM_token : Int32) (niM_whole : Int32) (niM_nameSize : Int32) (niM_fault : Int32) (niM_place : Int32) (niM_trouble : Int32) (niM_failed : Int32) (niM_hasCourt : Int32) (niM_undos : Int32) (niM_images : Int32) (niM_fresherSize : Int32) (niM_scale : Int32) (nfM_letters : Nat → Int32) (nfM_r : Nat → Int32) (nfM_fresh : Nat → Int32) (nfM_told : Nat → Int32) (nfM_read : Nat → Int32) (nfM_st : Nat → Int32) (nfM_fresher : Nat → Int32), (0 ≤ niM_taped.toInt ∧ niM_taped.toInt ≤ 900) ∧ (0 ≤ niM_size.toInt ∧ niM_size.toInt ≤ 900) ∧ (0 ≤ niM_end.toInt ∧ niM_end.toInt ≤ 900) ∧ (0 ≤ niM_nameSize.toInt ∧ niM_nameSize.toInt ≤ 900) ∧ (0 ≤ niM_failed.toInt ∧ niM_failed.toInt ≤ 1) ∧ (0 ≤ niM_hasCourt.toInt ∧ niM_hasCourt.toInt ≤ 1) ∧ (0 ≤ niM_undos.toInt ∧ niM_undos.toInt ≤ 16) ∧ (0 ≤ niM_images.toInt ∧ niM_images.toInt ≤ 3) ∧ (1 ≤ niM_scale.toInt ∧ niM_scale.toInt ≤ 1296) ∧ (ROk nfM_r) ∧ (niM_hasCourt.toInt ≤ 0 ∨ (1 ≤ (nfM_r 1).toInt ∧ 0 ≤ (nfM_r 6).toInt ∧ (nfM_r 6).toInt < (nfM_r 1).toInt)) ∧ (RowOk nfM_r nfM_st) ∧ (RowOk nfM_r nfM_told) ∧ (WorOk nfM_st) ∧ (HistOk nfM_r fM_undone niM_undos.toInt) ∧ (HistOk nfM_r fM_kept niM_images.toInt) ∧ (ImpP (niM_token.toInt = 2) (niM_nameSize.toInt ≤ 8)) ∧ ((0 ≤ p0.toInt ∧ p0.toInt ≤ iM_taped.toInt ∧ niM_taped.toInt = 0) ∨ ((p0.toInt < 0 ∨ iM_taped.toInt < p0.toInt) ∧ niM_taped.toInt = iM_taped.toInt)) ∧ (PX7_court fM_tape iM_taped iM_size iM_at iM_end iM_token iM_whole iM_nameSize iM_fault iM_place fM_letters iM_failed iM_hasCourt fM_r fM_fresh fM_told fM_read fM_st iM_undos iM_images fM_fresher iM_fresherSize iM_scale p0 = (Int32.ofNat u, niM_thrown, niM_taped, niM_size, niM_at, niM_end, niM_token, niM_whole, niM_nameSize, niM_fault, niM_place, niM_trouble, niM_failed, niM_hasCourt, niM_undos, niM_images, niM_fresherSize, niM_scale, nfM_letters, nfM_r, nfM_fresh, nfM_told, nfM_read, nfM_st, nfM_fresher)) ∧ Bw dC dI (va_A [(oc7 oM iM_thrown rM_tape iM_taped iM_size iM_at iM_end iM_token iM_whole iM_nameSize iM_fault iM_place iM_trouble rM_letters iM_failed iM_hasCourt rM_r rM_fresh rM_told rM_read rM_st rM_undone rM_kept iM_undos iM_images rM_fresher iM_fresherSize iM_scale iM_night rM_heardRow rM_cutRow iM_breaths iM_cutMany iM_allBreaths rM_trial rM_words iM_fewestBreaths iM_orderMany iM_orderSum iM_leastOrder rM_often iM_setMany iM_someOf iM_allOf iM_allWeight iM_enoughWeight iM_worthSum iM_firstRest iM_leastDrawn), (arI rM_tape kM_tape 900 fM_tape), (arI rM_letters kM_letters 8 fM_letters), (arI rM_r kM_r 287 fM_r), (arI rM_fresh kM_fresh 287 fM_fresh), (arI rM_told kM_told 90 fM_told), (arI rM_read kM_read 90 fM_read), (arI rM_st kM_st 90 fM_st), (arI rM_undone kM_undone 1440 fM_undone), (arI rM_kept kM_kept 270 fM_kept), (arI rM_fresher kM_fresher 8 fM_fresher)] sz) [(oc7 oM niM_thrown rM_tape niM_taped niM_size niM_at niM_end niM_token niM_whole niM_nameSize niM_fault niM_place niM_trouble rM_letters niM_failed niM_hasCourt rM_r rM_fresh rM_told rM_read rM_st rM_undone rM_kept niM_undos niM_images rM_fresher niM_fresherSize niM_scale iM_night rM_heardRow rM_cutRow iM_breaths iM_cutMany iM_allBreaths rM_trial rM_words iM_fewestBreaths iM_orderMany iM_orderSum iM_leastOrder rM_often iM_setMany iM_someOf iM_allOf iM_allWeight iM_enoughWeight iM_worthSum iM_firstRest iM_leastDrawn), (arI rM_tape kM_tape 900 fM_tape), (arI rM_letters kM_letters 8 nfM_letters), (arI rM_r kM_r 287 nfM_r), (arI rM_fresh kM_fresh 287 nfM_fresh), (arI rM_told kM_told 90 nfM_told), (arI rM_read kM_read 90 nfM_read), (arI rM_st kM_st 90 nfM_st), (arI rM_undone kM_undone 1440 fM_undone), (arI rM_kept kM_kept 270 fM_kept), (arI rM_fresher kM_fresher 8 nfM_fresher)] [(kM_tape, .int), (kM_letters, .int), (kM_r, .int), (kM_fresh, .int), (kM_told, .int), (kM_read, .int), (kM_st, .int), (kM_undone, .int), (kM_kept, .int), (kM_fresher, .int)] t) (va_A [(oc7 oM iM_thrown rM_tape iM_taped iM_size iM_at iM_end iM_token iM_whole iM_nameSize iM_fault iM_place iM_trouble rM_letters iM_failed iM_hasCourt rM_r rM_fresh rM_told rM_read rM_st rM_undone rM_kept iM_undos iM_images rM_fresher iM_fresherSize iM_scale iM_night rM_heardRow rM_cutRow iM_breaths iM_cutMany iM_allBreaths rM_trial rM_words iM_fewestBreaths iM_orderMany iM_orderSum iM_leastOrder rM_often iM_setMany iM_someOf iM_allOf iM_allWeight iM_enoughWeight iM_worthSum iM_firstRest iM_leastDrawn), (arI rM_tape kM_tape 900 fM_tape), (arI rM_letters kM_letters 8 fM_letters), (arI rM_r kM_r 287 fM_r), (arI rM_fresh kM_fresh 287 fM_fresh), (arI rM_told kM_told 90 fM_told), (arI rM_read kM_read 90 fM_read), (arI rM_st kM_st 90 fM_st), (arI rM_undone kM_undone 1440 fM_undone), (arI rM_kept kM_kept 270 fM_kept), (arI rM_fresher kM_fresher 8 fM_fresher)] sz)) 0 0 (va_A [(oc7 oM iM_thrown rM_tape iM_taped iM_size iM_at iM_end iM_token iM_whole iM_nameSize iM_fault iM_place iM_trouble rM_letters iM_failed iM_hasCourt rM_r rM_fresh rM_told rM_read rM_st rM_undone rM_kept iM_undos iM_images rM_fresher iM_fresherSize iM_scale iM_night rM_heardRow rM_cutRow iM_breaths iM_cutMany iM_allBreaths rM_trial rM_words iM_fewestBreaths iM_orderMany iM_orderSum iM_leastOrder rM_often iM_setMany iM_someOf iM_allOf iM_allWeight iM_enoughWeight iM_worthSum iM_firstRest iM_leastDrawn), (arI rM_tape kM_tape 900 fM_tape), (arI rM_letters kM_letters 8 fM_letters), (arI rM_r kM_r 287 fM_r), (arI rM_fresh kM_fresh 287 fM_fresh), (arI rM_told kM_told 90 fM_told), (arI rM_read kM_read 90 fM_read), (arI rM_st kM_st 90 fM_st), (arI rM_undone kM_undone 1440 fM_undone), (arI rM_kept kM_kept 270 fM_kept), (arI rM_fresher kM_fresher 8 fM_fresher)] sz) := by
  refine Met.ofW (cc := cX7_court) (maxL := 3) (ret := (some .int)) pnX7 rfl ?_
  intro p e s m args below meth c s₁ B hml hv
  obtain ⟨rfl, hsz, hP, hK, hD0, hE⟩ := hv
  have hx := B.exec
  have hb := B.bytes
  have hr := B.returns
  have hts : ∀ w ∈ wG, w.before ([.ref oM, .int p0] : List Value).toArray s = true := fun w h => atoms_spec (ws := Cond.code yX7_court cX7_court 3 (some .int) :: wG) B.pre w (List.mem_cons_of_mem _ h)
  have hown : s.vm.findClass RX7 = some m.cls := own_of B.named rfl
  have hlocks := B.notSynchronized
  subst hsz
  have hD := hD0.self (sz := s.heap.size)
  generalize hAe : va_A [(oc7 oM iM_thrown rM_tape iM_taped iM_size iM_at iM_end iM_token iM_whole iM_nameSize iM_fault iM_place iM_trouble rM_letters iM_failed iM_hasCourt rM_r rM_fresh rM_told rM_read rM_st rM_undone rM_kept iM_undos iM_images rM_fresher iM_fresherSize iM_scale iM_night rM_heardRow rM_cutRow iM_breaths iM_cutMany iM_allBreaths rM_trial rM_words iM_fewestBreaths iM_orderMany iM_orderSum iM_leastOrder rM_often iM_setMany iM_someOf iM_allOf iM_allWeight iM_enoughWeight iM_worthSum iM_firstRest iM_leastDrawn), (arI rM_tape kM_tape 900 fM_tape), (arI rM_letters kM_letters 8 fM_letters), (arI rM_r kM_r 287 fM_r), (arI rM_fresh kM_fresh 287 fM_fresh), (arI rM_told kM_told 90 fM_told), (arI rM_read kM_read 90 fM_read), (arI rM_st kM_st 90 fM_st), (arI rM_undone kM_undone 1440 fM_undone), (arI rM_kept kM_kept 270 fM_kept), (arI rM_fresher kM_fresher 8 fM_fresher)] s.heap.size = A at hD hE ⊢
  have hA : ∀ q : Nat, s.heap.size ≤ q → A q := fun q h => by rw [← hAe]; exact Or.inr h
  have hS : va_S A s.heap s.heap [] := va_S.rf
  have hl := lv_entry ([.ref oM, .int p0]) (n := 3) (Nat.le_of_ble_eq_true rfl)
  rw [lg_entry_eq]
  generalize (lg_sl ([.ref oM, .int p0]) ++ List.replicate (3 - (lg_sl ([.ref oM, .int p0])).length) Slot.unset).toArray = ls at hl ⊢
  have hl : lv_has ls 3 [(0, .ref oM), (1, .int p0)] := hl
  have hG := PX7_court_eq fM_tape iM_taped iM_size iM_at iM_end iM_token iM_whole iM_nameSize iM_fault iM_place fM_letters iM_failed iM_hasCourt fM_r fM_fresh fM_told fM_read fM_st iM_undos iM_images fM_fresher iM_fresherSize iM_scale p0
  have s_slips := r_R.slips
  have s_nodes := r_R.nodes
  have s_uns := r_R.uns
  refine lv_aload_n hx hb dX7_court_0 rfl (lv_at hl 0 rfl) ?_
  have hMs := ml_of hD [true, false, false, false, false, false, false, false, false, false, false] (wc := [(oc7 oM iM_thrown rM_tape iM_taped iM_size iM_at iM_end iM_token iM_whole iM_nameSize iM_fault iM_place iM_trouble rM_letters iM_failed iM_hasCourt rM_r rM_fresh rM_told rM_read rM_st rM_undone rM_kept iM_undos iM_images rM_fresher iM_fresherSize iM_scale iM_night rM_heardRow rM_cutRow iM_breaths iM_cutMany iM_allBreaths rM_trial rM_words iM_fewestBreaths iM_orderMany iM_orderSum iM_leastOrder rM_often iM_setMany iM_someOf iM_allOf iM_allWeight iM_enoughWeight iM_worthSum iM_firstRest iM_leastDrawn)]) rfl
  have hFc := va_freeM hD hS hA _ hMs
  refine va_callv (va_runV (As := []) (rest := []) ⟨hx, hb, hml, hown, hts⟩ (tX7_good l dC dI _ oM iM_thrown rM_tape iM_taped iM_size iM_at iM_end iM_token iM_whole iM_nameSize iM_fault iM_place iM_trouble rM_letters iM_failed iM_hasCourt rM_r rM_fresh rM_told rM_read rM_st rM_undone rM_kept iM_undos iM_images rM_fresher iM_fresherSize iM_scale iM_night rM_heardRow rM_cutRow iM_breaths iM_cutMany iM_allBreaths rM_trial rM_words iM_fewestBreaths iM_orderMany iM_orderSum iM_leastOrder rM_often iM_setMany iM_someOf iM_allOf iM_allWeight iM_enoughWeight iM_worthSum iM_firstRest iM_leastDrawn b_iM_taped b_iM_size b_iM_end b_iM_failed b_iM_hasCourt b_iM_undos b_iM_images b_iM_scale b_iM_breaths b_iM_cutMany) (cwV 0 hts (wd_V wd_388 wd_389 wd_390 wd_5 (wd_c wd_391)) rfl rfl rfl dv_yX7_good_0 ⟨Nat.le_of_ble_eq_true rfl, Nat.le_of_ble_eq_true rfl⟩) ⟨Pw.fb, recvX7 hK hP (q0 := 0) rfl, fun U hU hW => Pw.to (hP.ms _ hMs) (hD.ms _ hMs) (hK.ms [false, false, false, false, false, false, false, false, false, false] rfl) hE hS hFc hU hW⟩ rfl rfl hl.1 rfl (lv_room (Nat.le_of_ble_eq_true rfl)) dX7_court_1 ⟨Nat.le_of_ble_eq_true rfl, Nat.le_of_ble_eq_true rfl⟩) hS (fun q _ h => hFc q h) hFc (fun u t H locs ht hvm hw hB hz1 hk1 hS => ?_)
  refine ex_2_3 hB (fun x_7261 x_7262 b_x_7261 b_x_7262 e_x_7261_0 hB => ?_)
  obtain ⟨hP, hD⟩ := Bw.goN (ws' := [(oc7 oM x_7261 rM_tape iM_taped iM_size iM_at iM_end iM_token iM_whole iM_nameSize iM_fault iM_place x_7262 rM_letters iM_failed iM_hasCourt rM_r rM_fresh rM_told rM_read rM_st rM_undone rM_kept iM_undos iM_images rM_fresher iM_fresherSize iM_scale iM_night rM_heardRow rM_cutRow iM_breaths iM_cutMany iM_allBreaths rM_trial rM_words iM_fewestBreaths iM_orderMany iM_orderSum iM_leastOrder rM_often iM_setMany iM_someOf iM_allOf iM_allWeight iM_enoughWeight iM_worthSum iM_firstRest iM_leastDrawn), (arI rM_tape kM_tape 900 fM_tape), (arI rM_letters kM_letters 8 fM_letters), (arI rM_r kM_r 287 fM_r), (arI rM_fresh kM_fresh 287 fM_fresh), (arI rM_told kM_told 90 fM_told), (arI rM_read kM_read 90 fM_read), (arI rM_st kM_st 90 fM_st), (arI rM_undone kM_undone 1440 fM_undone), (arI rM_kept kM_kept 270 fM_kept), (arI rM_fresher kM_fresher 8 fM_fresher)]) hB rfl ht hP hD _ hMs hk1 hFc rfl
  clear hz1 hk1 hvm ht hB hMs
  have hG := hG.trans (un2_eq e_x_7261_0)
  refine lv_iload_n hx hb dX7_court_4 rfl (lv_at hl 1 rfl) ?_
  refine lv_iconst (v := 0) hx hb dX7_court_5 (by decide) ?_
  refine lv_aload_n hx hb dX7_court_6 rfl (lv_at hl 0 rfl) ?_
  refine va_get (D := (dC, dI)) (ci := 7) (v := .int iM_taped) (C := RX7) (T := TX7) (N := 48) hx hb hts inX7 hown hK hP 0 rfl rfl 2 (by decide) (hts _ wd_185) (fun _ h9 => h9) rfl dX7_court_7 ?_
  have hFc : ∀ q, va_A [] _ q → A q := fun q h => hA q (Nat.le_trans hS.1 (va_nilA h))
  refine va_calli (va_runS (As := [.int p0, .int 0, .int iM_taped]) (rest := []) ⟨hx, hb, hml, hown, hts⟩ (tX7_in l dC dI _ p0 0 iM_taped ) (va_cwS 3 hts (wd_S wd_393 wd_394 wd_5 (wd_c wd_395)) rfl rfl rfl ds_yX7_in_3 ⟨Nat.le_of_ble_eq_true rfl, Nat.le_of_ble_eq_true rfl⟩) ⟨Pw.fb, fun U hU hW => Pn.to hK hE hS hA hU hW⟩ rfl rfl hl.1 rfl (lv_room (Nat.le_of_ble_eq_true rfl)) dX7_court_10 ⟨Nat.le_of_ble_eq_true rfl, Nat.le_of_ble_eq_true rfl⟩) hS (fun q _ h => hFc q h) hFc (fun r u t H locs ht hvm hw hB hz1 hk1 hS => ?_)
  obtain ⟨hP, hD, hK⟩ := Bw.same ht hvm hP hD hK hk1 hFc
  clear hz1 hk1 hvm ht hB
  have hq9 := hw.2
  have hw := hw.1
  obtain ⟨x_7263, rfl⟩ : ∃ z, z = r := ⟨_, rfl⟩
  have hq_x_7263 := hq9
  have hG := hG.trans (lt_eq hq_x_7263.symm)
  have bx_7263 := hw.1
  have dx_7263 := bz_tb bx_7263
  have px_7263 := hw.2
  rcases px_7263 with ⟨gx_7263, hx_7263⟩ | ⟨gx_7263, hx_7263⟩
  · skip
    have l9x_7263 := kc_0
    refine lv_if_ne (tgt := 22) hx hb dX7_court_13 (by decide) (fun c_7264 => ?_) (fun c_7264 => ?_)
    · skip
      have hG := hG.trans (if_neg c_7264)
      have gc_7264 := ti_ne c_7264 rfl kc_0
      replace gc_7264 : (-1) * x_7263.toInt + 1 ≤ 0 := om_e3003f79 gc_7264 dx_7263.1
      refine lv_aload_n hx hb dX7_court_22 rfl (lv_at hl 0 rfl) ?_
      refine lv_iconst (v := 0) hx hb dX7_court_23 (by decide) ?_
      refine va_put (D := (dC, dI)) (ci := 7) (v := .int 0) (ty := .int) (C := RX7) (T := TX7) (N := 48) hx hb hts inX7 tyX7 tyX7_ok nmX7 hown hK hP hD hS 0 rfl rfl 2 (by decide) (hts _ wd_185) (fun _ h9 => h9) rfl (by decide +kernel) rfl rfl (Nat.le_of_ble_eq_true rfl) dX7_court_24 (fun H locs hP hD hS => ?_)
      obtain ⟨hP, hD⟩ := wl2 (ws' := [(oc7 oM x_7261 rM_tape 0 iM_size iM_at iM_end iM_token iM_whole iM_nameSize iM_fault iM_place x_7262 rM_letters iM_failed iM_hasCourt rM_r rM_fresh rM_told rM_read rM_st rM_undone rM_kept iM_undos iM_images rM_fresher iM_fresherSize iM_scale iM_night rM_heardRow rM_cutRow iM_breaths iM_cutMany iM_allBreaths rM_trial rM_words iM_fewestBreaths iM_orderMany iM_orderSum iM_leastOrder rM_often iM_setMany iM_someOf iM_allOf iM_allWeight iM_enoughWeight iM_worthSum iM_firstRest iM_leastDrawn), (arI rM_tape kM_tape 900 fM_tape), (arI rM_letters kM_letters 8 fM_letters), (arI rM_r kM_r 287 fM_r), (arI rM_fresh kM_fresh 287 fM_fresh), (arI rM_told kM_told 90 fM_told), (arI rM_read kM_read 90 fM_read), (arI rM_st kM_st 90 fM_st), (arI rM_undone kM_undone 1440 fM_undone), (arI rM_kept kM_kept 270 fM_kept), (arI rM_fresher kM_fresher 8 fM_fresher)]) hP hD rfl
      refine lv_aload_n hx hb dX7_court_27 rfl (lv_at hl 0 rfl) ?_
      refine lv_iconst (v := 0) hx hb dX7_court_28 (by decide) ?_
      refine va_put (D := (dC, dI)) (ci := 7) (v := .int 0) (ty := .int) (C := RX7) (T := TX7) (N := 48) hx hb hts inX7 tyX7 tyX7_ok nmX7 hown hK hP hD hS 0 rfl rfl 9 (by decide) (hts _ wd_379) (fun _ h9 => h9) rfl (by decide +kernel) rfl rfl (Nat.le_of_ble_eq_true rfl) dX7_court_29 (fun H locs hP hD hS => ?_)
      obtain ⟨hP, hD⟩ := wl2 (ws' := [(oc7 oM x_7261 rM_tape 0 iM_size iM_at iM_end iM_token iM_whole iM_nameSize 0 iM_place x_7262 rM_letters iM_failed iM_hasCourt rM_r rM_fresh rM_told rM_read rM_st rM_undone rM_kept iM_undos iM_images rM_fresher iM_fresherSize iM_scale iM_night rM_heardRow rM_cutRow iM_breaths iM_cutMany iM_allBreaths rM_trial rM_words iM_fewestBreaths iM_orderMany iM_orderSum iM_leastOrder rM_often iM_setMany iM_someOf iM_allOf iM_allWeight iM_enoughWeight iM_worthSum iM_firstRest iM_leastDrawn), (arI rM_tape kM_tape 900 fM_tape), (arI rM_letters kM_letters 8 fM_letters), (arI rM_r kM_r 287 fM_r), (arI rM_fresh kM_fresh 287 fM_fresh), (arI rM_told kM_told 90 fM_told), (arI rM_read kM_read 90 fM_read), (arI rM_st kM_st 90 fM_st), (arI rM_undone kM_undone 1440 fM_undone), (arI rM_kept kM_kept 270 fM_kept), (arI rM_fresher kM_fresher 8 fM_fresher)]) hP hD rfl
      refine lv_aload_n hx hb dX7_court_32 rfl (lv_at hl 0 rfl) ?_
      refine lv_iconst (v := 0) hx hb dX7_court_33 (by decide) ?_
      refine va_put (D := (dC, dI)) (ci := 7) (v := .int 0) (ty := .boolean) (C := RX7) (T := TX7) (N := 48) hx hb hts inX7 tyX7 tyX7_ok nmX7 hown hK hP hD hS 0 rfl rfl 13 (by decide) (hts _ wd_380) (fun _ h9 => h9) rfl (by decide +kernel) rfl rfl (Nat.le_of_ble_eq_true rfl) dX7_court_34 (fun H locs hP hD hS => ?_)
      obtain ⟨hP, hD⟩ := wl2 (ws' := [(oc7 oM x_7261 rM_tape 0 iM_size iM_at iM_end iM_token iM_whole iM_nameSize 0 iM_place x_7262 rM_letters 0 iM_hasCourt rM_r rM_fresh rM_told rM_read rM_st rM_undone rM_kept iM_undos iM_images rM_fresher iM_fresherSize iM_scale iM_night rM_heardRow rM_cutRow iM_breaths iM_cutMany iM_allBreaths rM_trial rM_words iM_fewestBreaths iM_orderMany iM_orderSum iM_leastOrder rM_often iM_setMany iM_someOf iM_allOf iM_allWeight iM_enoughWeight iM_worthSum iM_firstRest iM_leastDrawn), (arI rM_tape kM_tape 900 fM_tape), (arI rM_letters kM_letters 8 fM_letters), (arI rM_r kM_r 287 fM_r), (arI rM_fresh kM_fresh 287 fM_fresh), (arI rM_told kM_told 90 fM_told), (arI rM_read kM_read 90 fM_read), (arI rM_st kM_st 90 fM_st), (arI rM_undone kM_undone 1440 fM_undone), (arI rM_kept kM_kept 270 fM_kept), (arI rM_fresher kM_fresher 8 fM_fresher)]) hP hD rfl
      refine lv_iconst (v := 0) hx hb dX7_court_37 (by decide) ?_
      refine lv_istore_n (lv' := [(2, .int 0), (0, .ref oM), (1, .int p0)]) hx hb dX7_court_38 rfl hl (by decide) rfl (fun ls hl => ?_)
      have hl := lv_sub hl (l' := [(2, .int 0), (0, .ref oM), (1, .int p0)]) [0, 1, 2] rfl
      have key_n_7267 : ∀ (n_7267 : Nat) (z_7265 : Int32) (f_7266 : Nat → Int32) (H : Heap) (locs : List Loc) (ls : Array Slot), (0 ≤ z_7265.toInt ∧ z_7265.toInt ≤ 287) → (ZerI z_7265.toNatClampNeg f_7266) → (287 - z_7265.toInt).toNat < n_7267 → (PX7_court fM_tape iM_taped iM_size iM_at iM_end iM_token iM_whole iM_nameSize iM_fault iM_place fM_letters iM_failed iM_hasCourt fM_r fM_fresh fM_told fM_read fM_st iM_undos iM_images fM_fresher iM_fresherSize iM_scale p0 = HX7_court_0 fM_tape iM_place fM_letters iM_hasCourt fM_r fM_told fM_read fM_st iM_undos iM_images fM_fresher iM_fresherSize iM_scale p0 x_7261 x_7262 n_7267 z_7265 f_7266) → va_P (dC, dI) vwCl [(oc7 oM x_7261 rM_tape 0 iM_size iM_at iM_end iM_token iM_whole iM_nameSize 0 iM_place x_7262 rM_letters 0 iM_hasCourt rM_r rM_fresh rM_told rM_read rM_st rM_undone rM_kept iM_undos iM_images rM_fresher iM_fresherSize iM_scale iM_night rM_heardRow rM_cutRow iM_breaths iM_cutMany iM_allBreaths rM_trial rM_words iM_fewestBreaths iM_orderMany iM_orderSum iM_leastOrder rM_often iM_setMany iM_someOf iM_allOf iM_allWeight iM_enoughWeight iM_worthSum iM_firstRest iM_leastDrawn), (arI rM_tape kM_tape 900 fM_tape), (arI rM_letters kM_letters 8 fM_letters), (arI rM_r kM_r 287 fM_r), (arI rM_fresh kM_fresh 287 f_7266), (arI rM_told kM_told 90 fM_told), (arI rM_read kM_read 90 fM_read), (arI rM_st kM_st 90 fM_st), (arI rM_undone kM_undone 1440 fM_undone), (arI rM_kept kM_kept 270 fM_kept), (arI rM_fresher kM_fresher 8 fM_fresher)] H → va_D A [(oc7 oM x_7261 rM_tape 0 iM_size iM_at iM_end iM_token iM_whole iM_nameSize 0 iM_place x_7262 rM_letters 0 iM_hasCourt rM_r rM_fresh rM_told rM_read rM_st rM_undone rM_kept iM_undos iM_images rM_fresher iM_fresherSize iM_scale iM_night rM_heardRow rM_cutRow iM_breaths iM_cutMany iM_allBreaths rM_trial rM_words iM_fewestBreaths iM_orderMany iM_orderSum iM_leastOrder rM_often iM_setMany iM_someOf iM_allOf iM_allWeight iM_enoughWeight iM_worthSum iM_firstRest iM_leastDrawn), (arI rM_tape kM_tape 900 fM_tape), (arI rM_letters kM_letters 8 fM_letters), (arI rM_r kM_r 287 fM_r), (arI rM_fresh kM_fresh 287 f_7266), (arI rM_told kM_told 90 fM_told), (arI rM_read kM_read 90 fM_read), (arI rM_st kM_st 90 fM_st), (arI rM_undone kM_undone 1440 fM_undone), (arI rM_kept kM_kept 270 fM_kept), (arI rM_fresher kM_fresher 8 fM_fresher)] → va_S A s.heap H locs → lv_has ls 3 [(2, .int z_7265), (0, .ref oM), (1, .int p0)] → W p l e (headSpec (Cond.code yX7_court cX7_court 3 (some .int) :: wG) ({ frames := 10, cells := 0, slots := 0, locals := 240 })).room s m ([.ref oM, .int p0] : List Value).toArray below meth c H locs 0 0 (MQ below (va_Qi (fun (r : Int32) (u : Nat) => (True ∧ True) ∧ r = Int32.ofNat u) (fun (u : Nat) (t : State) => ∃ (niM_thrown : Int32) (niM_taped : Int32) (niM_size : Int32) (niM_at : Int32) (niM_end : Int32) (niM_token : Int32) (niM_whole : Int32) (niM_nameSize : Int32) (niM_fault : Int32) (niM_place : Int32) (niM_trouble : Int32) (niM_failed : Int32) (niM_hasCourt : Int32) (niM_undos : Int32) (niM_images : Int32) (niM_fresherSize : Int32) (niM_scale : Int32) (nfM_letters : Nat → Int32) (nfM_r : Nat → Int32) (nfM_fresh : Nat → Int32) (nfM_told : Nat → Int32) (nfM_read : Nat → Int32) (nfM_st : Nat → Int32) (nfM_fresher : Nat → Int32), (0 ≤ niM_taped.toInt ∧ niM_taped.toInt ≤ 900) ∧ (0 ≤ niM_size.toInt ∧ niM_size.toInt ≤ 900) ∧ (0 ≤ niM_end.toInt ∧ niM_end.toInt ≤ 900) ∧ (0 ≤ niM_nameSize.toInt ∧ niM_nameSize.toInt ≤ 900) ∧ (0 ≤ niM_failed.toInt ∧ niM_failed.toInt ≤ 1) ∧ (0 ≤ niM_hasCourt.toInt ∧ niM_hasCourt.toInt ≤ 1) ∧ (0 ≤ niM_undos.toInt ∧ niM_undos.toInt ≤ 16) ∧ (0 ≤ niM_images.toInt ∧ niM_images.toInt ≤ 3) ∧ (1 ≤ niM_scale.toInt ∧ niM_scale.toInt ≤ 1296) ∧ (ROk nfM_r) ∧ (niM_hasCourt.toInt ≤ 0 ∨ (1 ≤ (nfM_r 1).toInt ∧ 0 ≤ (nfM_r 6).toInt ∧ (nfM_r 6).toInt < (nfM_r 1).toInt)) ∧ (RowOk nfM_r nfM_st) ∧ (RowOk nfM_r nfM_told) ∧ (WorOk nfM_st) ∧ (HistOk nfM_r fM_undone niM_undos.toInt) ∧ (HistOk nfM_r fM_kept niM_images.toInt) ∧ (ImpP (niM_token.toInt = 2) (niM_nameSize.toInt ≤ 8)) ∧ ((0 ≤ p0.toInt ∧ p0.toInt ≤ iM_taped.toInt ∧ niM_taped.toInt = 0) ∨ ((p0.toInt < 0 ∨ iM_taped.toInt < p0.toInt) ∧ niM_taped.toInt = iM_taped.toInt)) ∧ (PX7_court fM_tape iM_taped iM_size iM_at iM_end iM_token iM_whole iM_nameSize iM_fault iM_place fM_letters iM_failed iM_hasCourt fM_r fM_fresh fM_told fM_read fM_st iM_undos iM_images fM_fresher iM_fresherSize iM_scale p0 = (Int32.ofNat u, niM_thrown, niM_taped, niM_size, niM_at, niM_end, niM_token, niM_whole, niM_nameSize, niM_fault, niM_place, niM_trouble, niM_failed, niM_hasCourt, niM_undos, niM_images, niM_fresherSize, niM_scale, nfM_letters, nfM_r, nfM_fresh, nfM_told, nfM_read, nfM_st, nfM_fresher)) ∧ Bw dC dI A [(oc7 oM niM_thrown rM_tape niM_taped niM_size niM_at niM_end niM_token niM_whole niM_nameSize niM_fault niM_place niM_trouble rM_letters niM_failed niM_hasCourt rM_r rM_fresh rM_told rM_read rM_st rM_undone rM_kept niM_undos niM_images rM_fresher niM_fresherSize niM_scale iM_night rM_heardRow rM_cutRow iM_breaths iM_cutMany iM_allBreaths rM_trial rM_words iM_fewestBreaths iM_orderMany iM_orderSum iM_leastOrder rM_often iM_setMany iM_someOf iM_allOf iM_allWeight iM_enoughWeight iM_worthSum iM_firstRest iM_leastDrawn), (arI rM_tape kM_tape 900 fM_tape), (arI rM_letters kM_letters 8 nfM_letters), (arI rM_r kM_r 287 nfM_r), (arI rM_fresh kM_fresh 287 nfM_fresh), (arI rM_told kM_told 90 nfM_told), (arI rM_read kM_read 90 nfM_read), (arI rM_st kM_st 90 nfM_st), (arI rM_undone kM_undone 1440 fM_undone), (arI rM_kept kM_kept 270 fM_kept), (arI rM_fresher kM_fresher 8 nfM_fresher)] [(kM_tape, .int), (kM_letters, .int), (kM_r, .int), (kM_fresh, .int), (kM_told, .int), (kM_read, .int), (kM_st, .int), (kM_undone, .int), (kM_kept, .int), (kM_fresher, .int)] t) A) ([.ref oM, .int p0] : List Value).toArray s 0 0 A) (F0 m 39 ls []) := by
        intro n_7267
        induction n_7267 with
        | zero => intro z_7265 f_7266 H locs ls hi0_n_7267 hi1_n_7267 hm; exact absurd hm (Nat.not_lt_zero _)
        | succ n_7267 ih_n_7267 =>
          intro z_7265 f_7266 H locs ls hi0_n_7267 hi1_n_7267 hm_n_7267 hG hP hD hS hl
          have hG := hG.trans (HX7_court_0_eq _ _ _ _ _ _ _ _ _ _ _ _ _ _ _ _ _ _ _)
          refine lv_iload_n hx hb dX7_court_39 rfl (lv_at hl 0 rfl) ?_
          refine lv_sipush (v := 287) hx hb dX7_court_40 (by decide) ?_
          refine lv_icmp_ge (tgt := 59) hx hb dX7_court_43 (by decide) (fun c_7268 => ?_) (fun c_7268 => ?_)
          · skip
            have hG := hG.trans (if_pos c_7268)
            have gc_7268 := ti_le c_7268 kc_287 rfl
            refine lv_iconst (v := 0) hx hb dX7_court_59 (by decide) ?_
            refine lv_istore_n (lv' := [(2, .int 0), (0, .ref oM), (1, .int p0)]) hx hb dX7_court_60 rfl hl (by decide) rfl (fun ls hl => ?_)
            have hl := lv_sub hl (l' := [(2, .int 0), (0, .ref oM), (1, .int p0)]) [0, 1, 2] rfl
            have key_n_7271 : ∀ (n_7271 : Nat) (z_7269 : Int32) (f_7270 : Nat → Int32) (H : Heap) (locs : List Loc) (ls : Array Slot), (0 ≤ z_7269.toInt ∧ z_7269.toInt ≤ 90) → (ZerI z_7269.toNatClampNeg f_7270) → (90 - z_7269.toInt).toNat < n_7271 → (PX7_court fM_tape iM_taped iM_size iM_at iM_end iM_token iM_whole iM_nameSize iM_fault iM_place fM_letters iM_failed iM_hasCourt fM_r fM_fresh fM_told fM_read fM_st iM_undos iM_images fM_fresher iM_fresherSize iM_scale p0 = HX7_court_1 fM_tape iM_place fM_letters iM_hasCourt fM_r fM_told fM_st iM_undos iM_images fM_fresher iM_fresherSize iM_scale p0 x_7261 x_7262 f_7266 n_7271 z_7269 f_7270) → va_P (dC, dI) vwCl [(oc7 oM x_7261 rM_tape 0 iM_size iM_at iM_end iM_token iM_whole iM_nameSize 0 iM_place x_7262 rM_letters 0 iM_hasCourt rM_r rM_fresh rM_told rM_read rM_st rM_undone rM_kept iM_undos iM_images rM_fresher iM_fresherSize iM_scale iM_night rM_heardRow rM_cutRow iM_breaths iM_cutMany iM_allBreaths rM_trial rM_words iM_fewestBreaths iM_orderMany iM_orderSum iM_leastOrder rM_often iM_setMany iM_someOf iM_allOf iM_allWeight iM_enoughWeight iM_worthSum iM_firstRest iM_leastDrawn), (arI rM_tape kM_tape 900 fM_tape), (arI rM_letters kM_letters 8 fM_letters), (arI rM_r kM_r 287 fM_r), (arI rM_fresh kM_fresh 287 f_7266), (arI rM_told kM_told 90 fM_told), (arI rM_read kM_read 90 f_7270), (arI rM_st kM_st 90 fM_st), (arI rM_undone kM_undone 1440 fM_undone), (arI rM_kept kM_kept 270 fM_kept), (arI rM_fresher kM_fresher 8 fM_fresher)] H → va_D A [(oc7 oM x_7261 rM_tape 0 iM_size iM_at iM_end iM_token iM_whole iM_nameSize 0 iM_place x_7262 rM_letters 0 iM_hasCourt rM_r rM_fresh rM_told rM_read rM_st rM_undone rM_kept iM_undos iM_images rM_fresher iM_fresherSize iM_scale iM_night rM_heardRow rM_cutRow iM_breaths iM_cutMany iM_allBreaths rM_trial rM_words iM_fewestBreaths iM_orderMany iM_orderSum iM_leastOrder rM_often iM_setMany iM_someOf iM_allOf iM_allWeight iM_enoughWeight iM_worthSum iM_firstRest iM_leastDrawn), (arI rM_tape kM_tape 900 fM_tape), (arI rM_letters kM_letters 8 fM_letters), (arI rM_r kM_r 287 fM_r), (arI rM_fresh kM_fresh 287 f_7266), (arI rM_told kM_told 90 fM_told), (arI rM_read kM_read 90 f_7270), (arI rM_st kM_st 90 fM_st), (arI rM_undone kM_undone 1440 fM_undone), (arI rM_kept kM_kept 270 fM_kept), (arI rM_fresher kM_fresher 8 fM_fresher)] → va_S A s.heap H locs → lv_has ls 3 [(2, .int z_7269), (0, .ref oM), (1, .int p0)] → W p l e (headSpec (Cond.code yX7_court cX7_court 3 (some .int) :: wG) ({ frames := 10, cells := 0, slots := 0, locals := 240 })).room s m ([.ref oM, .int p0] : List Value).toArray below meth c H locs 0 0 (MQ below (va_Qi (fun (r : Int32) (u : Nat) => (True ∧ True) ∧ r = Int32.ofNat u) (fun (u : Nat) (t : State) => ∃ (niM_thrown : Int32) (niM_taped : Int32) (niM_size : Int32) (niM_at : Int32) (niM_end : Int32) (niM_token : Int32) (niM_whole : Int32) (niM_nameSize : Int32) (niM_fault : Int32) (niM_place : Int32) (niM_trouble : Int32) (niM_failed : Int32) (niM_hasCourt : Int32) (niM_undos : Int32) (niM_images : Int32) (niM_fresherSize : Int32) (niM_scale : Int32) (nfM_letters : Nat → Int32) (nfM_r : Nat → Int32) (nfM_fresh : Nat → Int32) (nfM_told : Nat → Int32) (nfM_read : Nat → Int32) (nfM_st : Nat → Int32) (nfM_fresher : Nat → Int32), (0 ≤ niM_taped.toInt ∧ niM_taped.toInt ≤ 900) ∧ (0 ≤ niM_size.toInt ∧ niM_size.toInt ≤ 900) ∧ (0 ≤ niM_end.toInt ∧ niM_end.toInt ≤ 900) ∧ (0 ≤ niM_nameSize.toInt ∧ niM_nameSize.toInt ≤ 900) ∧ (0 ≤ niM_failed.toInt ∧ niM_failed.toInt ≤ 1) ∧ (0 ≤ niM_hasCourt.toInt ∧ niM_hasCourt.toInt ≤ 1) ∧ (0 ≤ niM_undos.toInt ∧ niM_undos.toInt ≤ 16) ∧ (0 ≤ niM_images.toInt ∧ niM_images.toInt ≤ 3) ∧ (1 ≤ niM_scale.toInt ∧ niM_scale.toInt ≤ 1296) ∧ (ROk nfM_r) ∧ (niM_hasCourt.toInt ≤ 0 ∨ (1 ≤ (nfM_r 1).toInt ∧ 0 ≤ (nfM_r 6).toInt ∧ (nfM_r 6).toInt < (nfM_r 1).toInt)) ∧ (RowOk nfM_r nfM_st) ∧ (RowOk nfM_r nfM_told) ∧ (WorOk nfM_st) ∧ (HistOk nfM_r fM_undone niM_undos.toInt) ∧ (HistOk nfM_r fM_kept niM_images.toInt) ∧ (ImpP (niM_token.toInt = 2) (niM_nameSize.toInt ≤ 8)) ∧ ((0 ≤ p0.toInt ∧ p0.toInt ≤ iM_taped.toInt ∧ niM_taped.toInt = 0) ∨ ((p0.toInt < 0 ∨ iM_taped.toInt < p0.toInt) ∧ niM_taped.toInt = iM_taped.toInt)) ∧ (PX7_court fM_tape iM_taped iM_size iM_at iM_end iM_token iM_whole iM_nameSize iM_fault iM_place fM_letters iM_failed iM_hasCourt fM_r fM_fresh fM_told fM_read fM_st iM_undos iM_images fM_fresher iM_fresherSize iM_scale p0 = (Int32.ofNat u, niM_thrown, niM_taped, niM_size, niM_at, niM_end, niM_token, niM_whole, niM_nameSize, niM_fault, niM_place, niM_trouble, niM_failed, niM_hasCourt, niM_undos, niM_images, niM_fresherSize, niM_scale, nfM_letters, nfM_r, nfM_fresh, nfM_told, nfM_read, nfM_st, nfM_fresher)) ∧ Bw dC dI A [(oc7 oM niM_thrown rM_tape niM_taped niM_size niM_at niM_end niM_token niM_whole niM_nameSize niM_fault niM_place niM_trouble rM_letters niM_failed niM_hasCourt rM_r rM_fresh rM_told rM_read rM_st rM_undone rM_kept niM_undos niM_images rM_fresher niM_fresherSize niM_scale iM_night rM_heardRow rM_cutRow iM_breaths iM_cutMany iM_allBreaths rM_trial rM_words iM_fewestBreaths iM_orderMany iM_orderSum iM_leastOrder rM_often iM_setMany iM_someOf iM_allOf iM_allWeight iM_enoughWeight iM_worthSum iM_firstRest iM_leastDrawn), (arI rM_tape kM_tape 900 fM_tape), (arI rM_letters kM_letters 8 nfM_letters), (arI rM_r kM_r 287 nfM_r), (arI rM_fresh kM_fresh 287 nfM_fresh), (arI rM_told kM_told 90 nfM_told), (arI rM_read kM_read 90 nfM_read), (arI rM_st kM_st 90 nfM_st), (arI rM_undone kM_undone 1440 fM_undone), (arI rM_kept kM_kept 270 fM_kept), (arI rM_fresher kM_fresher 8 nfM_fresher)] [(kM_tape, .int), (kM_letters, .int), (kM_r, .int), (kM_fresh, .int), (kM_told, .int), (kM_read, .int), (kM_st, .int), (kM_undone, .int), (kM_kept, .int), (kM_fresher, .int)] t) A) ([.ref oM, .int p0] : List Value).toArray s 0 0 A) (F0 m 61 ls []) := by
              intro n_7271
              induction n_7271 with
              | zero => intro z_7269 f_7270 H locs ls hi0_n_7271 hi1_n_7271 hm; exact absurd hm (Nat.not_lt_zero _)
              | succ n_7271 ih_n_7271 =>
                intro z_7269 f_7270 H locs ls hi0_n_7271 hi1_n_7271 hm_n_7271 hG hP hD hS hl
                have hG := hG.trans (HX7_court_1_eq _ _ _ _ _ _ _ _ _ _ _ _ _ _ _ _ _ _ _)
                refine lv_iload_n hx hb dX7_court_61 rfl (lv_at hl 0 rfl) ?_
                refine lv_bipush (v := 90) hx hb dX7_court_62 (by decide) ?_
                refine lv_icmp_ge (tgt := 80) hx hb dX7_court_64 (by decide) (fun c_7272 => ?_) (fun c_7272 => ?_)
                · skip
                  have hG := hG.trans (if_pos c_7272)
                  have gc_7272 := ti_le c_7272 kc_90 rfl
                  refine lv_aload_n hx hb dX7_court_80 rfl (lv_at hl 1 rfl) ?_
                  refine va_get (D := (dC, dI)) (ci := 7) (v := .ref rM_fresh) (C := RX7) (T := TX7) (N := 48) hx hb hts inX7 hown hK hP 0 rfl rfl 16 (by decide) (hts _ wd_156) (fun _ h9 => h9) rfl dX7_court_81 ?_
                  refine lv_bipush (v := 6) hx hb dX7_court_84 (by decide) ?_
                  refine lv_iconst (v := (-1)) hx hb dX7_court_86 (by decide) ?_
                  refine va_iast hx hb hK hP hD hS 4 3 rfl rfl (by unfold vp_in; decide) dX7_court_87 (fun H locs hP hD hS => ?_)
                  obtain ⟨f_7273, ef_7273⟩ : ∃ g : Nat → Int32, g = upd f_7266 (6 : Int32).toNatClampNeg ((-1) : Int32) := ⟨_, rfl⟩
                  rw [← ef_7273] at hP hD
                  have hG := hG.trans (lt_eq ef_7273)
                  obtain ⟨hP, hD⟩ := wl2 (ws' := [(oc7 oM x_7261 rM_tape 0 iM_size iM_at iM_end iM_token iM_whole iM_nameSize 0 iM_place x_7262 rM_letters 0 iM_hasCourt rM_r rM_fresh rM_told rM_read rM_st rM_undone rM_kept iM_undos iM_images rM_fresher iM_fresherSize iM_scale iM_night rM_heardRow rM_cutRow iM_breaths iM_cutMany iM_allBreaths rM_trial rM_words iM_fewestBreaths iM_orderMany iM_orderSum iM_leastOrder rM_often iM_setMany iM_someOf iM_allOf iM_allWeight iM_enoughWeight iM_worthSum iM_firstRest iM_leastDrawn), (arI rM_tape kM_tape 900 fM_tape), (arI rM_letters kM_letters 8 fM_letters), (arI rM_r kM_r 287 fM_r), (arI rM_fresh kM_fresh 287 f_7273), (arI rM_told kM_told 90 fM_told), (arI rM_read kM_read 90 f_7270), (arI rM_st kM_st 90 fM_st), (arI rM_undone kM_undone 1440 fM_undone), (arI rM_kept kM_kept 270 fM_kept), (arI rM_fresher kM_fresher 8 fM_fresher)]) hP hD rfl
                  have zf9 : ZerI 287 f_7266 := by have h8 := hi1_n_7267; rw [show z_7265.toNatClampNeg = 287 from by have q1 := ti_cl (x := z_7265) rfl hi0_n_7267.1; omega] at h8; exact h8
                  have zr9 : ZerI 90 f_7270 := by have h8 := hi1_n_7271; rw [show z_7269.toNatClampNeg = 90 from by have q1 := ti_cl (x := z_7269) rfl hi0_n_7271.1; omega] at h8; exact h8
                  have pk_f_7273 : POk f_7273 f_7270 := POk.zero zf9 ef_7273 rfl kc_m1 zr9
                  have pl_f_7273 := pk_f_7273.lins
                  refine lv_aload_n hx hb dX7_court_88 rfl (lv_at hl 1 rfl) ?_
                  refine lv_iload_n hx hb dX7_court_89 rfl (lv_at hl 2 rfl) ?_
                  refine va_put (D := (dC, dI)) (ci := 7) (v := .int p0) (ty := .int) (C := RX7) (T := TX7) (N := 48) hx hb hts inX7 tyX7 tyX7_ok nmX7 hown hK hP hD hS 0 rfl rfl 3 (by decide) (hts _ wd_381) (fun _ h9 => h9) rfl (by decide +kernel) rfl rfl (Nat.le_of_ble_eq_true rfl) dX7_court_90 (fun H locs hP hD hS => ?_)
                  obtain ⟨hP, hD⟩ := wl2 (ws' := [(oc7 oM x_7261 rM_tape 0 p0 iM_at iM_end iM_token iM_whole iM_nameSize 0 iM_place x_7262 rM_letters 0 iM_hasCourt rM_r rM_fresh rM_told rM_read rM_st rM_undone rM_kept iM_undos iM_images rM_fresher iM_fresherSize iM_scale iM_night rM_heardRow rM_cutRow iM_breaths iM_cutMany iM_allBreaths rM_trial rM_words iM_fewestBreaths iM_orderMany iM_orderSum iM_leastOrder rM_often iM_setMany iM_someOf iM_allOf iM_allWeight iM_enoughWeight iM_worthSum iM_firstRest iM_leastDrawn), (arI rM_tape kM_tape 900 fM_tape), (arI rM_letters kM_letters 8 fM_letters), (arI rM_r kM_r 287 fM_r), (arI rM_fresh kM_fresh 287 f_7273), (arI rM_told kM_told 90 fM_told), (arI rM_read kM_read 90 f_7270), (arI rM_st kM_st 90 fM_st), (arI rM_undone kM_undone 1440 fM_undone), (arI rM_kept kM_kept 270 fM_kept), (arI rM_fresher kM_fresher 8 fM_fresher)]) hP hD rfl
                  refine lv_aload_n hx hb dX7_court_93 rfl (lv_at hl 1 rfl) ?_
                  refine lv_iconst (v := 0) hx hb dX7_court_94 (by decide) ?_
                  refine va_put (D := (dC, dI)) (ci := 7) (v := .int 0) (ty := .int) (C := RX7) (T := TX7) (N := 48) hx hb hts inX7 tyX7 tyX7_ok nmX7 hown hK hP hD hS 0 rfl rfl 5 (by decide) (hts _ wd_382) (fun _ h9 => h9) rfl (by decide +kernel) rfl rfl (Nat.le_of_ble_eq_true rfl) dX7_court_95 (fun H locs hP hD hS => ?_)
                  obtain ⟨hP, hD⟩ := wl2 (ws' := [(oc7 oM x_7261 rM_tape 0 p0 iM_at 0 iM_token iM_whole iM_nameSize 0 iM_place x_7262 rM_letters 0 iM_hasCourt rM_r rM_fresh rM_told rM_read rM_st rM_undone rM_kept iM_undos iM_images rM_fresher iM_fresherSize iM_scale iM_night rM_heardRow rM_cutRow iM_breaths iM_cutMany iM_allBreaths rM_trial rM_words iM_fewestBreaths iM_orderMany iM_orderSum iM_leastOrder rM_often iM_setMany iM_someOf iM_allOf iM_allWeight iM_enoughWeight iM_worthSum iM_firstRest iM_leastDrawn), (arI rM_tape kM_tape 900 fM_tape), (arI rM_letters kM_letters 8 fM_letters), (arI rM_r kM_r 287 fM_r), (arI rM_fresh kM_fresh 287 f_7273), (arI rM_told kM_told 90 fM_told), (arI rM_read kM_read 90 f_7270), (arI rM_st kM_st 90 fM_st), (arI rM_undone kM_undone 1440 fM_undone), (arI rM_kept kM_kept 270 fM_kept), (arI rM_fresher kM_fresher 8 fM_fresher)]) hP hD rfl
                  refine lv_aload_n hx hb dX7_court_98 rfl (lv_at hl 1 rfl) ?_
                  have hMs := ml_of hD [true, true, true, false, false, false, false, false, false, false, false] (wc := [(oc7 oM x_7261 rM_tape 0 p0 iM_at 0 iM_token iM_whole iM_nameSize 0 iM_place x_7262 rM_letters 0 iM_hasCourt rM_r rM_fresh rM_told rM_read rM_st rM_undone rM_kept iM_undos iM_images rM_fresher iM_fresherSize iM_scale iM_night rM_heardRow rM_cutRow iM_breaths iM_cutMany iM_allBreaths rM_trial rM_words iM_fewestBreaths iM_orderMany iM_orderSum iM_leastOrder rM_often iM_setMany iM_someOf iM_allOf iM_allWeight iM_enoughWeight iM_worthSum iM_firstRest iM_leastDrawn), (arI rM_tape kM_tape 900 fM_tape), (arI rM_letters kM_letters 8 fM_letters)]) rfl
                  have hFc := va_freeM hD hS hA _ hMs
                  refine va_callv (va_runV (As := []) (rest := []) ⟨hx, hb, hml, hown, hts⟩ (tX7_next l dC dI _ oM x_7261 rM_tape fM_tape kM_tape 0 p0 iM_at 0 iM_token iM_whole iM_nameSize 0 iM_place x_7262 rM_letters fM_letters kM_letters 0 iM_hasCourt rM_r rM_fresh rM_told rM_read rM_st rM_undone rM_kept iM_undos iM_images rM_fresher iM_fresherSize iM_scale iM_night rM_heardRow rM_cutRow iM_breaths iM_cutMany iM_allBreaths rM_trial rM_words iM_fewestBreaths iM_orderMany iM_orderSum iM_leastOrder rM_often iM_setMany iM_someOf iM_allOf iM_allWeight iM_enoughWeight iM_worthSum iM_firstRest iM_leastDrawn (by first | decide | omega) (by first | exact ⟨by omega, by omega⟩ | omega | decide) (by first | decide | omega) b_iM_nameSize (by first | decide | omega) b_iM_hasCourt b_iM_undos b_iM_images b_iM_scale b_iM_breaths b_iM_cutMany r_T) (cwV 0 hts (wd_V wd_400 wd_401 wd_402 wd_5 (wd_c wd_403)) rfl rfl rfl dv_yX7_next_0 ⟨Nat.le_of_ble_eq_true rfl, Nat.le_of_ble_eq_true rfl⟩) ⟨Pw.fb, recvX7 hK hP (q0 := 0) rfl, fun U hU hW => Pw.to (hP.ms _ hMs) (hD.ms _ hMs) (hK.ms [true, true, false, false, false, false, false, false, false, false] rfl) hE hS hFc hU hW⟩ rfl rfl hl.1 rfl (lv_room (Nat.le_of_ble_eq_true rfl)) dX7_court_99 ⟨Nat.le_of_ble_eq_true rfl, Nat.le_of_ble_eq_true rfl⟩) hS (fun q _ h => hFc q h) hFc (fun u t H locs ht hvm hw hB hz1 hk1 hS => ?_)
                  refine ex_6_6 hB (fun x_7274 x_7275 x_7276 x_7277 x_7278 f_7279 b_x_7275 b_x_7278 e_x_7274_0 e_x_7274_1 e_x_7274_2 e_x_7274_3 hB => ?_)
                  obtain ⟨hP, hD⟩ := Bw.goN (ws' := [(oc7 oM x_7261 rM_tape 0 p0 x_7274 x_7275 x_7276 x_7277 x_7278 0 iM_place x_7262 rM_letters 0 iM_hasCourt rM_r rM_fresh rM_told rM_read rM_st rM_undone rM_kept iM_undos iM_images rM_fresher iM_fresherSize iM_scale iM_night rM_heardRow rM_cutRow iM_breaths iM_cutMany iM_allBreaths rM_trial rM_words iM_fewestBreaths iM_orderMany iM_orderSum iM_leastOrder rM_often iM_setMany iM_someOf iM_allOf iM_allWeight iM_enoughWeight iM_worthSum iM_firstRest iM_leastDrawn), (arI rM_tape kM_tape 900 fM_tape), (arI rM_letters kM_letters 8 f_7279), (arI rM_r kM_r 287 fM_r), (arI rM_fresh kM_fresh 287 f_7273), (arI rM_told kM_told 90 fM_told), (arI rM_read kM_read 90 f_7270), (arI rM_st kM_st 90 fM_st), (arI rM_undone kM_undone 1440 fM_undone), (arI rM_kept kM_kept 270 fM_kept), (arI rM_fresher kM_fresher 8 fM_fresher)]) hB rfl ht hP hD _ hMs hk1 hFc rfl
                  clear hz1 hk1 hvm ht hB hMs
                  have hG := hG.trans (un6_eq e_x_7274_3)
                  clear r_T
                  refine lv_aload_n hx hb dX7_court_102 rfl (lv_at hl 1 rfl) ?_
                  have hMs := ml_of hD [true, true, true, false, true, false, true, false, false, false, true] (wc := [(oc7 oM x_7261 rM_tape 0 p0 x_7274 x_7275 x_7276 x_7277 x_7278 0 iM_place x_7262 rM_letters 0 iM_hasCourt rM_r rM_fresh rM_told rM_read rM_st rM_undone rM_kept iM_undos iM_images rM_fresher iM_fresherSize iM_scale iM_night rM_heardRow rM_cutRow iM_breaths iM_cutMany iM_allBreaths rM_trial rM_words iM_fewestBreaths iM_orderMany iM_orderSum iM_leastOrder rM_often iM_setMany iM_someOf iM_allOf iM_allWeight iM_enoughWeight iM_worthSum iM_firstRest iM_leastDrawn), (arI rM_tape kM_tape 900 fM_tape), (arI rM_letters kM_letters 8 f_7279), (arI rM_fresh kM_fresh 287 f_7273), (arI rM_read kM_read 90 f_7270), (arI rM_fresher kM_fresher 8 fM_fresher)]) rfl
                  have hFc := va_freeM hD hS hA _ hMs
                  refine va_callv (va_runV (As := []) (rest := []) ⟨hx, hb, hml, hown, hts⟩ (tX7_readLine l dC dI _ oM x_7261 rM_tape fM_tape kM_tape 0 p0 x_7274 x_7275 x_7276 x_7277 x_7278 0 iM_place x_7262 rM_letters f_7279 kM_letters 0 iM_hasCourt rM_r rM_fresh f_7273 kM_fresh rM_told rM_read f_7270 kM_read rM_st rM_undone rM_kept iM_undos iM_images rM_fresher fM_fresher kM_fresher iM_fresherSize iM_scale iM_night rM_heardRow rM_cutRow iM_breaths iM_cutMany iM_allBreaths rM_trial rM_words iM_fewestBreaths iM_orderMany iM_orderSum iM_leastOrder rM_often iM_setMany iM_someOf iM_allOf iM_allWeight iM_enoughWeight iM_worthSum iM_firstRest iM_leastDrawn (by first | decide | omega) (by first | exact ⟨by omega, by omega⟩ | omega | decide) b_x_7275 b_x_7278 (by first | decide | omega) b_iM_hasCourt b_iM_undos b_iM_images b_iM_scale b_iM_breaths b_iM_cutMany e_x_7274_1 pk_f_7273) (cwV 0 hts (wd_V wd_416 wd_417 wd_418 wd_5 (wd_c wd_419)) rfl rfl rfl dv_yX7_readLine_0 ⟨Nat.le_of_ble_eq_true rfl, Nat.le_of_ble_eq_true rfl⟩) ⟨Pw.fb, recvX7 hK hP (q0 := 0) rfl, fun U hU hW => Pw.to (hP.ms _ hMs) (hD.ms _ hMs) (hK.ms [true, true, false, true, false, true, false, false, false, true] rfl) hE hS hFc hU hW⟩ rfl rfl hl.1 rfl (lv_room (Nat.le_of_ble_eq_true rfl)) dX7_court_103 ⟨Nat.le_of_ble_eq_true rfl, Nat.le_of_ble_eq_true rfl⟩) hS (fun q _ h => hFc q h) hFc (fun u t H locs ht hvm hw hB hz1 hk1 hS => ?_)
                  refine ex_13_9 hB (fun x_7280 x_7281 x_7282 x_7283 x_7284 x_7285 x_7286 x_7287 x_7288 f_7289 f_7290 f_7291 f_7292 b_x_7281 b_x_7284 b_x_7287 e_x_7280_0 e_x_7280_1 e_x_7280_2 e_x_7280_3 e_x_7280_4 e_x_7280_5 hB => ?_)
                  obtain ⟨hP, hD⟩ := Bw.goN (ws' := [(oc7 oM x_7261 rM_tape 0 p0 x_7280 x_7281 x_7282 x_7283 x_7284 x_7285 x_7286 x_7262 rM_letters x_7287 iM_hasCourt rM_r rM_fresh rM_told rM_read rM_st rM_undone rM_kept iM_undos iM_images rM_fresher x_7288 iM_scale iM_night rM_heardRow rM_cutRow iM_breaths iM_cutMany iM_allBreaths rM_trial rM_words iM_fewestBreaths iM_orderMany iM_orderSum iM_leastOrder rM_often iM_setMany iM_someOf iM_allOf iM_allWeight iM_enoughWeight iM_worthSum iM_firstRest iM_leastDrawn), (arI rM_tape kM_tape 900 fM_tape), (arI rM_letters kM_letters 8 f_7289), (arI rM_r kM_r 287 fM_r), (arI rM_fresh kM_fresh 287 f_7290), (arI rM_told kM_told 90 fM_told), (arI rM_read kM_read 90 f_7291), (arI rM_st kM_st 90 fM_st), (arI rM_undone kM_undone 1440 fM_undone), (arI rM_kept kM_kept 270 fM_kept), (arI rM_fresher kM_fresher 8 f_7292)]) hB rfl ht hP hD _ hMs hk1 hFc rfl
                  clear hz1 hk1 hvm ht hB hMs
                  have pl_f_7290 := e_x_7280_4.lins
                  have hG := hG.trans (un13_eq e_x_7280_5)
                  clear e_x_7274_1
                  clear e_x_7274_2
                  have hl := lv_sub hl (l' := [(2, .int z_7269), (0, .ref oM), (1, .int p0)]) [0, 1, 2] rfl
                  have key_n_7306 : ∀ (n_7306 : Nat) (z_7293 : Int32) (z_7294 : Int32) (z_7295 : Int32) (z_7296 : Int32) (z_7297 : Int32) (z_7298 : Int32) (z_7299 : Int32) (z_7300 : Int32) (z_7301 : Int32) (f_7302 : Nat → Int32) (f_7303 : Nat → Int32) (f_7304 : Nat → Int32) (f_7305 : Nat → Int32) (H : Heap) (locs : List Loc) (ls : Array Slot), (0 ≤ z_7294.toInt ∧ z_7294.toInt ≤ 900) → (0 ≤ z_7297.toInt ∧ z_7297.toInt ≤ 900) → (0 ≤ z_7300.toInt ∧ z_7300.toInt ≤ 1) → (POk f_7303 f_7304) → (ImpP (z_7295.toInt = 2) (z_7297.toInt ≤ 8)) → crtM z_7300.toInt z_7295.toInt z_7294.toInt < n_7306 → (PX7_court fM_tape iM_taped iM_size iM_at iM_end iM_token iM_whole iM_nameSize iM_fault iM_place fM_letters iM_failed iM_hasCourt fM_r fM_fresh fM_told fM_read fM_st iM_undos iM_images fM_fresher iM_fresherSize iM_scale p0 = HX7_court_2 fM_tape iM_hasCourt fM_r fM_told fM_st iM_undos iM_images iM_scale p0 x_7261 x_7262 n_7306 z_7293 z_7294 z_7295 z_7296 z_7297 z_7298 z_7299 z_7300 z_7301 f_7302 f_7303 f_7304 f_7305) → va_P (dC, dI) vwCl [(oc7 oM x_7261 rM_tape 0 p0 z_7293 z_7294 z_7295 z_7296 z_7297 z_7298 z_7299 x_7262 rM_letters z_7300 iM_hasCourt rM_r rM_fresh rM_told rM_read rM_st rM_undone rM_kept iM_undos iM_images rM_fresher z_7301 iM_scale iM_night rM_heardRow rM_cutRow iM_breaths iM_cutMany iM_allBreaths rM_trial rM_words iM_fewestBreaths iM_orderMany iM_orderSum iM_leastOrder rM_often iM_setMany iM_someOf iM_allOf iM_allWeight iM_enoughWeight iM_worthSum iM_firstRest iM_leastDrawn), (arI rM_tape kM_tape 900 fM_tape), (arI rM_letters kM_letters 8 f_7302), (arI rM_r kM_r 287 fM_r), (arI rM_fresh kM_fresh 287 f_7303), (arI rM_told kM_told 90 fM_told), (arI rM_read kM_read 90 f_7304), (arI rM_st kM_st 90 fM_st), (arI rM_undone kM_undone 1440 fM_undone), (arI rM_kept kM_kept 270 fM_kept), (arI rM_fresher kM_fresher 8 f_7305)] H → va_D A [(oc7 oM x_7261 rM_tape 0 p0 z_7293 z_7294 z_7295 z_7296 z_7297 z_7298 z_7299 x_7262 rM_letters z_7300 iM_hasCourt rM_r rM_fresh rM_told rM_read rM_st rM_undone rM_kept iM_undos iM_images rM_fresher z_7301 iM_scale iM_night rM_heardRow rM_cutRow iM_breaths iM_cutMany iM_allBreaths rM_trial rM_words iM_fewestBreaths iM_orderMany iM_orderSum iM_leastOrder rM_often iM_setMany iM_someOf iM_allOf iM_allWeight iM_enoughWeight iM_worthSum iM_firstRest iM_leastDrawn), (arI rM_tape kM_tape 900 fM_tape), (arI rM_letters kM_letters 8 f_7302), (arI rM_r kM_r 287 fM_r), (arI rM_fresh kM_fresh 287 f_7303), (arI rM_told kM_told 90 fM_told), (arI rM_read kM_read 90 f_7304), (arI rM_st kM_st 90 fM_st), (arI rM_undone kM_undone 1440 fM_undone), (arI rM_kept kM_kept 270 fM_kept), (arI rM_fresher kM_fresher 8 f_7305)] → va_S A s.heap H locs → lv_has ls 3 [(2, .int z_7269), (0, .ref oM), (1, .int p0)] → W p l e (headSpec (Cond.code yX7_court cX7_court 3 (some .int) :: wG) ({ frames := 10, cells := 0, slots := 0, locals := 240 })).room s m ([.ref oM, .int p0] : List Value).toArray below meth c H locs 0 0 (MQ below (va_Qi (fun (r : Int32) (u : Nat) => (True ∧ True) ∧ r = Int32.ofNat u) (fun (u : Nat) (t : State) => ∃ (niM_thrown : Int32) (niM_taped : Int32) (niM_size : Int32) (niM_at : Int32) (niM_end : Int32) (niM_token : Int32) (niM_whole : Int32) (niM_nameSize : Int32) (niM_fault : Int32) (niM_place : Int32) (niM_trouble : Int32) (niM_failed : Int32) (niM_hasCourt : Int32) (niM_undos : Int32) (niM_images : Int32) (niM_fresherSize : Int32) (niM_scale : Int32) (nfM_letters : Nat → Int32) (nfM_r : Nat → Int32) (nfM_fresh : Nat → Int32) (nfM_told : Nat → Int32) (nfM_read : Nat → Int32) (nfM_st : Nat → Int32) (nfM_fresher : Nat → Int32), (0 ≤ niM_taped.toInt ∧ niM_taped.toInt ≤ 900) ∧ (0 ≤ niM_size.toInt ∧ niM_size.toInt ≤ 900) ∧ (0 ≤ niM_end.toInt ∧ niM_end.toInt ≤ 900) ∧ (0 ≤ niM_nameSize.toInt ∧ niM_nameSize.toInt ≤ 900) ∧ (0 ≤ niM_failed.toInt ∧ niM_failed.toInt ≤ 1) ∧ (0 ≤ niM_hasCourt.toInt ∧ niM_hasCourt.toInt ≤ 1) ∧ (0 ≤ niM_undos.toInt ∧ niM_undos.toInt ≤ 16) ∧ (0 ≤ niM_images.toInt ∧ niM_images.toInt ≤ 3) ∧ (1 ≤ niM_scale.toInt ∧ niM_scale.toInt ≤ 1296) ∧ (ROk nfM_r) ∧ (niM_hasCourt.toInt ≤ 0 ∨ (1 ≤ (nfM_r 1).toInt ∧ 0 ≤ (nfM_r 6).toInt ∧ (nfM_r 6).toInt < (nfM_r 1).toInt)) ∧ (RowOk nfM_r nfM_st) ∧ (RowOk nfM_r nfM_told) ∧ (WorOk nfM_st) ∧ (HistOk nfM_r fM_undone niM_undos.toInt) ∧ (HistOk nfM_r fM_kept niM_images.toInt) ∧ (ImpP (niM_token.toInt = 2) (niM_nameSize.toInt ≤ 8)) ∧ ((0 ≤ p0.toInt ∧ p0.toInt ≤ iM_taped.toInt ∧ niM_taped.toInt = 0) ∨ ((p0.toInt < 0 ∨ iM_taped.toInt < p0.toInt) ∧ niM_taped.toInt = iM_taped.toInt)) ∧ (PX7_court fM_tape iM_taped iM_size iM_at iM_end iM_token iM_whole iM_nameSize iM_fault iM_place fM_letters iM_failed iM_hasCourt fM_r fM_fresh fM_told fM_read fM_st iM_undos iM_images fM_fresher iM_fresherSize iM_scale p0 = (Int32.ofNat u, niM_thrown, niM_taped, niM_size, niM_at, niM_end, niM_token, niM_whole, niM_nameSize, niM_fault, niM_place, niM_trouble, niM_failed, niM_hasCourt, niM_undos, niM_images, niM_fresherSize, niM_scale, nfM_letters, nfM_r, nfM_fresh, nfM_told, nfM_read, nfM_st, nfM_fresher)) ∧ Bw dC dI A [(oc7 oM niM_thrown rM_tape niM_taped niM_size niM_at niM_end niM_token niM_whole niM_nameSize niM_fault niM_place niM_trouble rM_letters niM_failed niM_hasCourt rM_r rM_fresh rM_told rM_read rM_st rM_undone rM_kept niM_undos niM_images rM_fresher niM_fresherSize niM_scale iM_night rM_heardRow rM_cutRow iM_breaths iM_cutMany iM_allBreaths rM_trial rM_words iM_fewestBreaths iM_orderMany iM_orderSum iM_leastOrder rM_often iM_setMany iM_someOf iM_allOf iM_allWeight iM_enoughWeight iM_worthSum iM_firstRest iM_leastDrawn), (arI rM_tape kM_tape 900 fM_tape), (arI rM_letters kM_letters 8 nfM_letters), (arI rM_r kM_r 287 nfM_r), (arI rM_fresh kM_fresh 287 nfM_fresh), (arI rM_told kM_told 90 nfM_told), (arI rM_read kM_read 90 nfM_read), (arI rM_st kM_st 90 nfM_st), (arI rM_undone kM_undone 1440 fM_undone), (arI rM_kept kM_kept 270 fM_kept), (arI rM_fresher kM_fresher 8 nfM_fresher)] [(kM_tape, .int), (kM_letters, .int), (kM_r, .int), (kM_fresh, .int), (kM_told, .int), (kM_read, .int), (kM_st, .int), (kM_undone, .int), (kM_kept, .int), (kM_fresher, .int)] t) A) ([.ref oM, .int p0] : List Value).toArray s 0 0 A) (F0 m 106 ls []) := by
                    intro n_7306
                    induction n_7306 with
                    | zero => intro z_7293 z_7294 z_7295 z_7296 z_7297 z_7298 z_7299 z_7300 z_7301 f_7302 f_7303 f_7304 f_7305 H locs ls b_z_7294 b_z_7297 b_z_7300 hi0_n_7306 hi1_n_7306 hm; exact absurd hm (Nat.not_lt_zero _)
                    | succ n_7306 ih_n_7306 =>
                      intro z_7293 z_7294 z_7295 z_7296 z_7297 z_7298 z_7299 z_7300 z_7301 f_7302 f_7303 f_7304 f_7305 H locs ls b_z_7294 b_z_7297 b_z_7300 hi0_n_7306 hi1_n_7306 hm_n_7306 hG hP hD hS hl
                      have hG := hG.trans (HX7_court_2_eq _ _ _ _ _ _ _ _ _ _ _ _ _ _ _ _ _ _ _ _ _ _ _ _ _)
                      have pl_f_7303 := hi0_n_7306.lins
                      refine lv_aload_n hx hb dX7_court_106 rfl (lv_at hl 1 rfl) ?_
                      refine va_get (D := (dC, dI)) (ci := 7) (v := .int z_7300) (C := RX7) (T := TX7) (N := 48) hx hb hts inX7 hown hK hP 0 rfl rfl 13 (by decide) (hts _ wd_380) (fun _ h9 => h9) rfl dX7_court_107 ?_
                      refine lv_if_ne (tgt := 133) hx hb dX7_court_110 (by decide) (fun c_7307 => ?_) (fun c_7307 => ?_)
                      · skip
                        have hG := hG.trans (if_neg c_7307)
                        have gc_7307 := ti_ne c_7307 rfl kc_0
                        replace gc_7307 : (-1) * z_7300.toInt + 1 ≤ 0 := om_e3003f79 gc_7307 b_z_7300.1
                        refine lv_aload_n hx hb dX7_court_133 rfl (lv_at hl 1 rfl) ?_
                        refine va_get (D := (dC, dI)) (ci := 7) (v := .int z_7300) (C := RX7) (T := TX7) (N := 48) hx hb hts inX7 hown hK hP 0 rfl rfl 13 (by decide) (hts _ wd_380) (fun _ h9 => h9) rfl dX7_court_134 ?_
                        refine lv_if_ne (tgt := 156) hx hb dX7_court_137 (by decide) (fun c_7308 => ?_) (fun c_7308 => ?_)
                        · skip
                          have hG := hG.trans (if_neg c_7308)
                          have gc_7308 := ti_ne c_7308 rfl kc_0
                          replace gc_7308 : (-1) * z_7300.toInt + 1 ≤ 0 := om_e3003f79 gc_7308 b_z_7300.1
                          refine lv_aload_n hx hb dX7_court_156 rfl (lv_at hl 1 rfl) ?_
                          refine va_get (D := (dC, dI)) (ci := 7) (v := .int z_7300) (C := RX7) (T := TX7) (N := 48) hx hb hts inX7 hown hK hP 0 rfl rfl 13 (by decide) (hts _ wd_380) (fun _ h9 => h9) rfl dX7_court_157 ?_
                          refine lv_if_ne (tgt := 191) hx hb dX7_court_160 (by decide) (fun c_7309 => ?_) (fun c_7309 => ?_)
                          · skip
                            have hG := hG.trans (if_neg c_7309)
                            have gc_7309 := ti_ne c_7309 rfl kc_0
                            replace gc_7309 : (-1) * z_7300.toInt + 1 ≤ 0 := om_e3003f79 gc_7309 b_z_7300.1
                            refine lv_aload_n hx hb dX7_court_191 rfl (lv_at hl 1 rfl) ?_
                            refine va_get (D := (dC, dI)) (ci := 7) (v := .int z_7300) (C := RX7) (T := TX7) (N := 48) hx hb hts inX7 hown hK hP 0 rfl rfl 13 (by decide) (hts _ wd_380) (fun _ h9 => h9) rfl dX7_court_192 ?_
                            refine lv_if_eq (tgt := 204) hx hb dX7_court_195 (by decide) (fun c_7310 => ?_) (fun c_7310 => ?_)
                            · skip
                              have hG := hG.trans (if_pos c_7310)
                              have gc_7310 := ti_eq c_7310 rfl kc_0
                              exact ((om_77e4ddb5 gc_7307 gc_7310)).elim
                            · skip
                              have hG := hG.trans (if_neg c_7310)
                              have gc_7310 := ti_ne c_7310 rfl kc_0
                              replace gc_7310 : (-1) * z_7300.toInt + 1 ≤ 0 := om_e3003f79 gc_7310 b_z_7300.1
                              refine lv_aload_n hx hb dX7_court_198 rfl (lv_at hl 1 rfl) ?_
                              refine lv_iconst (v := 4) hx hb dX7_court_199 (by decide) ?_
                              have hMs := ml_of hD [true, false, false, false, false, false, false, false, false, false, false] (wc := [(oc7 oM x_7261 rM_tape 0 p0 z_7293 z_7294 z_7295 z_7296 z_7297 z_7298 z_7299 x_7262 rM_letters z_7300 iM_hasCourt rM_r rM_fresh rM_told rM_read rM_st rM_undone rM_kept iM_undos iM_images rM_fresher z_7301 iM_scale iM_night rM_heardRow rM_cutRow iM_breaths iM_cutMany iM_allBreaths rM_trial rM_words iM_fewestBreaths iM_orderMany iM_orderSum iM_leastOrder rM_often iM_setMany iM_someOf iM_allOf iM_allWeight iM_enoughWeight iM_worthSum iM_firstRest iM_leastDrawn)]) rfl
                              have hFc := va_freeM hD hS hA _ hMs
                              refine va_calli (va_runV (As := [.int 4]) (rest := []) ⟨hx, hb, hml, hown, hts⟩ (tX7_no l dC dI _ oM x_7261 rM_tape 0 p0 z_7293 z_7294 z_7295 z_7296 z_7297 z_7298 z_7299 x_7262 rM_letters z_7300 iM_hasCourt rM_r rM_fresh rM_told rM_read rM_st rM_undone rM_kept iM_undos iM_images rM_fresher z_7301 iM_scale iM_night rM_heardRow rM_cutRow iM_breaths iM_cutMany iM_allBreaths rM_trial rM_words iM_fewestBreaths iM_orderMany iM_orderSum iM_leastOrder rM_often iM_setMany iM_someOf iM_allOf iM_allWeight iM_enoughWeight iM_worthSum iM_firstRest iM_leastDrawn 4 (by first | decide | omega) (by first | exact ⟨by omega, by omega⟩ | omega | decide) b_z_7294 b_z_7300 b_iM_hasCourt b_iM_undos b_iM_images b_iM_scale b_iM_breaths b_iM_cutMany) (cwV 1 hts (wd_V wd_396 wd_397 wd_398 wd_5 (wd_c wd_399)) rfl rfl rfl dv_yX7_no_1 ⟨Nat.le_of_ble_eq_true rfl, Nat.le_of_ble_eq_true rfl⟩) ⟨Pw.fb, recvX7 hK hP (q0 := 0) rfl, fun U hU hW => Pw.to (hP.ms _ hMs) (hD.ms _ hMs) (hK.ms [false, false, false, false, false, false, false, false, false, false] rfl) hE hS hFc hU hW⟩ rfl rfl hl.1 rfl (lv_room (Nat.le_of_ble_eq_true rfl)) dX7_court_200 ⟨Nat.le_of_ble_eq_true rfl, Nat.le_of_ble_eq_true rfl⟩) hS (fun q _ h => hFc q h) hFc (fun r u t H locs ht hvm hw hB hz1 hk1 hS => ?_)
                              have hru9 := hw.2
                              have hw := hw.1
                              refine ex_1_1 hB (fun x_7311 e_x_7311_0 hB => ?_)
                              obtain ⟨hP, hD⟩ := Bw.goN (ws' := [(oc7 oM x_7261 rM_tape 0 p0 z_7293 z_7294 z_7295 z_7296 z_7297 z_7298 z_7299 x_7311 rM_letters z_7300 iM_hasCourt rM_r rM_fresh rM_told rM_read rM_st rM_undone rM_kept iM_undos iM_images rM_fresher z_7301 iM_scale iM_night rM_heardRow rM_cutRow iM_breaths iM_cutMany iM_allBreaths rM_trial rM_words iM_fewestBreaths iM_orderMany iM_orderSum iM_leastOrder rM_often iM_setMany iM_someOf iM_allOf iM_allWeight iM_enoughWeight iM_worthSum iM_firstRest iM_leastDrawn), (arI rM_tape kM_tape 900 fM_tape), (arI rM_letters kM_letters 8 f_7302), (arI rM_r kM_r 287 fM_r), (arI rM_fresh kM_fresh 287 f_7303), (arI rM_told kM_told 90 fM_told), (arI rM_read kM_read 90 f_7304), (arI rM_st kM_st 90 fM_st), (arI rM_undone kM_undone 1440 fM_undone), (arI rM_kept kM_kept 270 fM_kept), (arI rM_fresher kM_fresher 8 f_7305)]) hB rfl ht hP hD _ hMs hk1 hFc rfl
                              clear hz1 hk1 hvm ht hB hMs
                              rw [← hru9] at e_x_7311_0
                              obtain ⟨x_7312, rfl⟩ : ∃ z, z = r := ⟨_, rfl⟩
                              have hG := hG.trans (un2_eq e_x_7311_0)
                              exact wq_i hx hb hr (cI x_7312) ⟨⟨trivial, trivial⟩, (cI_of x_7312)⟩ (fun t ht hW => ⟨x_7261, 0, p0, z_7293, z_7294, z_7295, z_7296, z_7297, z_7298, z_7299, x_7311, z_7300, iM_hasCourt, iM_undos, iM_images, z_7301, iM_scale, f_7302, fM_r, f_7303, fM_told, f_7304, fM_st, f_7305, (by decide), ⟨by omega, by omega⟩, b_z_7294, b_z_7297, b_z_7300, ⟨b_iM_hasCourt.1, b_iM_hasCourt.2⟩, ⟨b_iM_undos.1, b_iM_undos.2⟩, ⟨b_iM_images.1, b_iM_images.2⟩, ⟨b_iM_scale.1, b_iM_scale.2⟩, (by have q0 := kc_0; have q1 := kc_1; first | assumption | omega), (by have q0 := kc_0; have q1 := kc_1; first | assumption | omega), (by have q0 := kc_0; have q1 := kc_1; first | assumption | omega), (by have q0 := kc_0; have q1 := kc_1; first | assumption | omega), (by have q0 := kc_0; have q1 := kc_1; first | assumption | omega), (by have q0 := kc_0; have q1 := kc_1; first | assumption | omega), (by have q0 := kc_0; have q1 := kc_1; first | assumption | omega), hi1_n_7306, (by have q0 := kc_0; have q1 := kc_1; first | assumption | omega), (cI_tup hG), Bw.to hP hD hK ht hW⟩) hS dX7_court_203 hlocks
                          · skip
                            have hG := hG.trans (if_pos c_7309)
                            have gc_7309 := ti_eq c_7309 rfl kc_0
                            exact ((om_77e4ddb5 gc_7307 gc_7309)).elim
                        · skip
                          have hG := hG.trans (if_pos c_7308)
                          have gc_7308 := ti_eq c_7308 rfl kc_0
                          exact ((om_77e4ddb5 gc_7307 gc_7308)).elim
                      · skip
                        have hG := hG.trans (if_pos c_7307)
                        have gc_7307 := ti_eq c_7307 rfl kc_0
                        refine lv_aload_n hx hb dX7_court_113 rfl (lv_at hl 1 rfl) ?_
                        refine va_get (D := (dC, dI)) (ci := 7) (v := .int z_7295) (C := RX7) (T := TX7) (N := 48) hx hb hts inX7 hown hK hP 0 rfl rfl 6 (by decide) (hts _ wd_383) (fun _ h9 => h9) rfl dX7_court_114 ?_
                        refine lv_bipush (v := 59) hx hb dX7_court_117 (by decide) ?_
                        refine lv_icmp_ne (tgt := 133) hx hb dX7_court_119 (by decide) (fun c_7313 => ?_) (fun c_7313 => ?_)
                        · skip
                          have hG := hG.trans (if_neg c_7313)
                          have gc_7313 := ti_ne c_7313 rfl kc_59
                          clear gc_7313
                          refine lv_aload_n hx hb dX7_court_133 rfl (lv_at hl 1 rfl) ?_
                          refine va_get (D := (dC, dI)) (ci := 7) (v := .int z_7300) (C := RX7) (T := TX7) (N := 48) hx hb hts inX7 hown hK hP 0 rfl rfl 13 (by decide) (hts _ wd_380) (fun _ h9 => h9) rfl dX7_court_134 ?_
                          refine lv_if_ne (tgt := 156) hx hb dX7_court_137 (by decide) (fun c_7314 => ?_) (fun c_7314 => ?_)
                          · skip
                            have hG := hG.trans (if_neg c_7314)
                            have gc_7314 := ti_ne c_7314 rfl kc_0
                            replace gc_7314 : z_7300.toInt + 1 ≤ 0 := om_f992525b gc_7314 gc_7307
                            exact ((om_5185113d b_z_7300.1 gc_7314)).elim
                          · skip
                            have hG := hG.trans (if_pos c_7314)
                            have gc_7314 := ti_eq c_7314 rfl kc_0
                            refine lv_aload_n hx hb dX7_court_140 rfl (lv_at hl 1 rfl) ?_
                            refine va_get (D := (dC, dI)) (ci := 7) (v := .int z_7295) (C := RX7) (T := TX7) (N := 48) hx hb hts inX7 hown hK hP 0 rfl rfl 6 (by decide) (hts _ wd_383) (fun _ h9 => h9) rfl dX7_court_141 ?_
                            refine lv_if_eq (tgt := 156) hx hb dX7_court_144 (by decide) (fun c_7315 => ?_) (fun c_7315 => ?_)
                            · skip
                              have hG := hG.trans (if_pos c_7315)
                              have gc_7315 := ti_eq c_7315 rfl kc_0
                              refine lv_aload_n hx hb dX7_court_156 rfl (lv_at hl 1 rfl) ?_
                              refine va_get (D := (dC, dI)) (ci := 7) (v := .int z_7300) (C := RX7) (T := TX7) (N := 48) hx hb hts inX7 hown hK hP 0 rfl rfl 13 (by decide) (hts _ wd_380) (fun _ h9 => h9) rfl dX7_court_157 ?_
                              refine lv_if_ne (tgt := 191) hx hb dX7_court_160 (by decide) (fun c_7316 => ?_) (fun c_7316 => ?_)
                              · skip
                                have hG := hG.trans (if_neg c_7316)
                                have gc_7316 := ti_ne c_7316 rfl kc_0
                                replace gc_7316 : z_7300.toInt + 1 ≤ 0 := om_f992525b gc_7316 gc_7307
                                exact ((om_5185113d b_z_7300.1 gc_7316)).elim
                              · skip
                                have hG := hG.trans (if_pos c_7316)
                                have gc_7316 := ti_eq c_7316 rfl kc_0
                                refine lv_aload_n hx hb dX7_court_163 rfl (lv_at hl 1 rfl) ?_
                                refine va_get (D := (dC, dI)) (ci := 7) (v := .ref rM_fresh) (C := RX7) (T := TX7) (N := 48) hx hb hts inX7 hown hK hP 0 rfl rfl 16 (by decide) (hts _ wd_156) (fun _ h9 => h9) rfl dX7_court_164 ?_
                                refine lv_iconst (v := 5) hx hb dX7_court_167 (by decide) ?_
                                refine va_iald hx hb hK hP 4 3 rfl rfl (by unfold vp_in; decide) dX7_court_168 ?_
                                refine lv_topi (fun x_7317 ex_7317 => ?_)
                                have hG := hG.trans (lt_eq ex_7317)
                                have cx_7317 : (f_7303 5).toInt = x_7317.toInt := congrArg Int32.toInt (show f_7303 5 = x_7317 from ex_7317.symm)
                                refine lv_if_eq (tgt := 181) hx hb dX7_court_169 (by decide) (fun c_7318 => ?_) (fun c_7318 => ?_)
                                · skip
                                  have hG := hG.trans (if_pos c_7318)
                                  have gc_7318 := ti_eq c_7318 rfl kc_0
                                  refine lv_aload_n hx hb dX7_court_181 rfl (lv_at hl 1 rfl) ?_
                                  refine lv_bipush (v := 6) hx hb dX7_court_182 (by decide) ?_
                                  refine lv_aload_n hx hb dX7_court_184 rfl (lv_at hl 1 rfl) ?_
                                  refine va_get (D := (dC, dI)) (ci := 7) (v := .int z_7293) (C := RX7) (T := TX7) (N := 48) hx hb hts inX7 hown hK hP 0 rfl rfl 4 (by decide) (hts _ wd_384) (fun _ h9 => h9) rfl dX7_court_185 ?_
                                  have hMs := ml_of hD [true, false, false, false, false, false, false, false, false, false, false] (wc := [(oc7 oM x_7261 rM_tape 0 p0 z_7293 z_7294 z_7295 z_7296 z_7297 z_7298 z_7299 x_7262 rM_letters z_7300 iM_hasCourt rM_r rM_fresh rM_told rM_read rM_st rM_undone rM_kept iM_undos iM_images rM_fresher z_7301 iM_scale iM_night rM_heardRow rM_cutRow iM_breaths iM_cutMany iM_allBreaths rM_trial rM_words iM_fewestBreaths iM_orderMany iM_orderSum iM_leastOrder rM_often iM_setMany iM_someOf iM_allOf iM_allWeight iM_enoughWeight iM_worthSum iM_firstRest iM_leastDrawn)]) rfl
                                  have hFc := va_freeM hD hS hA _ hMs
                                  refine va_callv (va_runV (As := [.int 6, .int z_7293]) (rest := []) ⟨hx, hb, hml, hown, hts⟩ (tX7_wrong l dC dI _ oM x_7261 rM_tape 0 p0 z_7293 z_7294 z_7295 z_7296 z_7297 z_7298 z_7299 x_7262 rM_letters z_7300 iM_hasCourt rM_r rM_fresh rM_told rM_read rM_st rM_undone rM_kept iM_undos iM_images rM_fresher z_7301 iM_scale iM_night rM_heardRow rM_cutRow iM_breaths iM_cutMany iM_allBreaths rM_trial rM_words iM_fewestBreaths iM_orderMany iM_orderSum iM_leastOrder rM_often iM_setMany iM_someOf iM_allOf iM_allWeight iM_enoughWeight iM_worthSum iM_firstRest iM_leastDrawn 6 z_7293 (by first | decide | omega) (by first | exact ⟨by omega, by omega⟩ | omega | decide) b_z_7294 b_z_7297 b_z_7300 b_iM_hasCourt b_iM_undos b_iM_images b_iM_scale b_iM_breaths b_iM_cutMany hi1_n_7306) (cwV 2 hts (wd_V wd_430 wd_431 wd_432 wd_5 (wd_c wd_433)) rfl rfl rfl dv_yX7_wrong_2 ⟨Nat.le_of_ble_eq_true rfl, Nat.le_of_ble_eq_true rfl⟩) ⟨Pw.fb, recvX7 hK hP (q0 := 0) rfl, fun U hU hW => Pw.to (hP.ms _ hMs) (hD.ms _ hMs) (hK.ms [false, false, false, false, false, false, false, false, false, false] rfl) hE hS hFc hU hW⟩ rfl rfl hl.1 rfl (lv_room (Nat.le_of_ble_eq_true rfl)) dX7_court_188 ⟨Nat.le_of_ble_eq_true rfl, Nat.le_of_ble_eq_true rfl⟩) hS (fun q _ h => hFc q h) hFc (fun u t H locs ht hvm hw hB hz1 hk1 hS => ?_)
                                  refine ex_3_3 hB (fun x_7319 x_7320 x_7321 b_x_7321 e_x_7319_0 e_x_7319_1 hB => ?_)
                                  obtain ⟨hP, hD⟩ := Bw.goN (ws' := [(oc7 oM x_7261 rM_tape 0 p0 z_7293 z_7294 z_7295 z_7296 z_7297 x_7319 x_7320 x_7262 rM_letters x_7321 iM_hasCourt rM_r rM_fresh rM_told rM_read rM_st rM_undone rM_kept iM_undos iM_images rM_fresher z_7301 iM_scale iM_night rM_heardRow rM_cutRow iM_breaths iM_cutMany iM_allBreaths rM_trial rM_words iM_fewestBreaths iM_orderMany iM_orderSum iM_leastOrder rM_often iM_setMany iM_someOf iM_allOf iM_allWeight iM_enoughWeight iM_worthSum iM_firstRest iM_leastDrawn), (arI rM_tape kM_tape 900 fM_tape), (arI rM_letters kM_letters 8 f_7302), (arI rM_r kM_r 287 fM_r), (arI rM_fresh kM_fresh 287 f_7303), (arI rM_told kM_told 90 fM_told), (arI rM_read kM_read 90 f_7304), (arI rM_st kM_st 90 fM_st), (arI rM_undone kM_undone 1440 fM_undone), (arI rM_kept kM_kept 270 fM_kept), (arI rM_fresher kM_fresher 8 f_7305)]) hB rfl ht hP hD _ hMs hk1 hFc rfl
                                  clear hz1 hk1 hvm ht hB hMs
                                  have hG := hG.trans (un3_eq e_x_7319_1)
                                  refine lv_aload_n hx hb dX7_court_191 rfl (lv_at hl 1 rfl) ?_
                                  refine va_get (D := (dC, dI)) (ci := 7) (v := .int x_7321) (C := RX7) (T := TX7) (N := 48) hx hb hts inX7 hown hK hP 0 rfl rfl 13 (by decide) (hts _ wd_380) (fun _ h9 => h9) rfl dX7_court_192 ?_
                                  refine lv_if_eq (tgt := 204) hx hb dX7_court_195 (by decide) (fun c_7322 => ?_) (fun c_7322 => ?_)
                                  · skip
                                    have hG := hG.trans (if_pos c_7322)
                                    have gc_7322 := ti_eq c_7322 rfl kc_0
                                    exact ((om_b1155cdc e_x_7319_0 gc_7322)).elim
                                  · skip
                                    have hG := hG.trans (if_neg c_7322)
                                    have gc_7322 := ti_ne c_7322 rfl kc_0
                                    replace gc_7322 : (-1) * x_7321.toInt + 1 ≤ 0 := om_e3003f79 gc_7322 b_x_7321.1
                                    refine lv_aload_n hx hb dX7_court_198 rfl (lv_at hl 1 rfl) ?_
                                    refine lv_iconst (v := 4) hx hb dX7_court_199 (by decide) ?_
                                    have hMs := ml_of hD [true, false, false, false, false, false, false, false, false, false, false] (wc := [(oc7 oM x_7261 rM_tape 0 p0 z_7293 z_7294 z_7295 z_7296 z_7297 x_7319 x_7320 x_7262 rM_letters x_7321 iM_hasCourt rM_r rM_fresh rM_told rM_read rM_st rM_undone rM_kept iM_undos iM_images rM_fresher z_7301 iM_scale iM_night rM_heardRow rM_cutRow iM_breaths iM_cutMany iM_allBreaths rM_trial rM_words iM_fewestBreaths iM_orderMany iM_orderSum iM_leastOrder rM_often iM_setMany iM_someOf iM_allOf iM_allWeight iM_enoughWeight iM_worthSum iM_firstRest iM_leastDrawn)]) rfl
                                    have hFc := va_freeM hD hS hA _ hMs
                                    refine va_calli (va_runV (As := [.int 4]) (rest := []) ⟨hx, hb, hml, hown, hts⟩ (tX7_no l dC dI _ oM x_7261 rM_tape 0 p0 z_7293 z_7294 z_7295 z_7296 z_7297 x_7319 x_7320 x_7262 rM_letters x_7321 iM_hasCourt rM_r rM_fresh rM_told rM_read rM_st rM_undone rM_kept iM_undos iM_images rM_fresher z_7301 iM_scale iM_night rM_heardRow rM_cutRow iM_breaths iM_cutMany iM_allBreaths rM_trial rM_words iM_fewestBreaths iM_orderMany iM_orderSum iM_leastOrder rM_often iM_setMany iM_someOf iM_allOf iM_allWeight iM_enoughWeight iM_worthSum iM_firstRest iM_leastDrawn 4 (by first | decide | omega) (by first | exact ⟨by omega, by omega⟩ | omega | decide) b_z_7294 b_x_7321 b_iM_hasCourt b_iM_undos b_iM_images b_iM_scale b_iM_breaths b_iM_cutMany) (cwV 1 hts (wd_V wd_396 wd_397 wd_398 wd_5 (wd_c wd_399)) rfl rfl rfl dv_yX7_no_1 ⟨Nat.le_of_ble_eq_true rfl, Nat.le_of_ble_eq_true rfl⟩) ⟨Pw.fb, recvX7 hK hP (q0 := 0) rfl, fun U hU hW => Pw.to (hP.ms _ hMs) (hD.ms _ hMs) (hK.ms [false, false, false, false, false, false, false, false, false, false] rfl) hE hS hFc hU hW⟩ rfl rfl hl.1 rfl (lv_room (Nat.le_of_ble_eq_true rfl)) dX7_court_200 ⟨Nat.le_of_ble_eq_true rfl, Nat.le_of_ble_eq_true rfl⟩) hS (fun q _ h => hFc q h) hFc (fun r u t H locs ht hvm hw hB hz1 hk1 hS => ?_)
                                    have hru9 := hw.2
                                    have hw := hw.1
                                    refine ex_1_1 hB (fun x_7323 e_x_7323_0 hB => ?_)
                                    obtain ⟨hP, hD⟩ := Bw.goN (ws' := [(oc7 oM x_7261 rM_tape 0 p0 z_7293 z_7294 z_7295 z_7296 z_7297 x_7319 x_7320 x_7323 rM_letters x_7321 iM_hasCourt rM_r rM_fresh rM_told rM_read rM_st rM_undone rM_kept iM_undos iM_images rM_fresher z_7301 iM_scale iM_night rM_heardRow rM_cutRow iM_breaths iM_cutMany iM_allBreaths rM_trial rM_words iM_fewestBreaths iM_orderMany iM_orderSum iM_leastOrder rM_often iM_setMany iM_someOf iM_allOf iM_allWeight iM_enoughWeight iM_worthSum iM_firstRest iM_leastDrawn), (arI rM_tape kM_tape 900 fM_tape), (arI rM_letters kM_letters 8 f_7302), (arI rM_r kM_r 287 fM_r), (arI rM_fresh kM_fresh 287 f_7303), (arI rM_told kM_told 90 fM_told), (arI rM_read kM_read 90 f_7304), (arI rM_st kM_st 90 fM_st), (arI rM_undone kM_undone 1440 fM_undone), (arI rM_kept kM_kept 270 fM_kept), (arI rM_fresher kM_fresher 8 f_7305)]) hB rfl ht hP hD _ hMs hk1 hFc rfl
                                    clear hz1 hk1 hvm ht hB hMs
                                    rw [← hru9] at e_x_7323_0
                                    obtain ⟨x_7324, rfl⟩ : ∃ z, z = r := ⟨_, rfl⟩
                                    have hG := hG.trans (un2_eq e_x_7323_0)
                                    exact wq_i hx hb hr (cI x_7324) ⟨⟨trivial, trivial⟩, (cI_of x_7324)⟩ (fun t ht hW => ⟨x_7261, 0, p0, z_7293, z_7294, z_7295, z_7296, z_7297, x_7319, x_7320, x_7323, x_7321, iM_hasCourt, iM_undos, iM_images, z_7301, iM_scale, f_7302, fM_r, f_7303, fM_told, f_7304, fM_st, f_7305, (by decide), ⟨by omega, by omega⟩, b_z_7294, b_z_7297, b_x_7321, ⟨b_iM_hasCourt.1, b_iM_hasCourt.2⟩, ⟨b_iM_undos.1, b_iM_undos.2⟩, ⟨b_iM_images.1, b_iM_images.2⟩, ⟨b_iM_scale.1, b_iM_scale.2⟩, (by have q0 := kc_0; have q1 := kc_1; first | assumption | omega), (by have q0 := kc_0; have q1 := kc_1; first | assumption | omega), (by have q0 := kc_0; have q1 := kc_1; first | assumption | omega), (by have q0 := kc_0; have q1 := kc_1; first | assumption | omega), (by have q0 := kc_0; have q1 := kc_1; first | assumption | omega), (by have q0 := kc_0; have q1 := kc_1; first | assumption | omega), (by have q0 := kc_0; have q1 := kc_1; first | assumption | omega), hi1_n_7306, (by have q0 := kc_0; have q1 := kc_1; first | assumption | omega), (cI_tup hG), Bw.to hP hD hK ht hW⟩) hS dX7_court_203 hlocks
                                · skip
                                  have hG := hG.trans (if_neg c_7318)
                                  have gc_7318 := ti_ne c_7318 rfl kc_0
                                  clear gc_7318
                                  refine lv_aload_n hx hb dX7_court_172 rfl (lv_at hl 1 rfl) ?_
                                  refine va_get (D := (dC, dI)) (ci := 7) (v := .ref rM_fresh) (C := RX7) (T := TX7) (N := 48) hx hb hts inX7 hown hK hP 0 rfl rfl 16 (by decide) (hts _ wd_156) (fun _ h9 => h9) rfl dX7_court_173 ?_
                                  refine lv_iconst (v := 2) hx hb dX7_court_176 (by decide) ?_
                                  refine va_iald hx hb hK hP 4 3 rfl rfl (by unfold vp_in; decide) dX7_court_177 ?_
                                  refine lv_topi (fun x_7325 ex_7325 => ?_)
                                  have hG := hG.trans (lt_eq ex_7325)
                                  have cx_7325 : (f_7303 2).toInt = x_7325.toInt := congrArg Int32.toInt (show f_7303 2 = x_7325 from ex_7325.symm)
                                  refine lv_if_ne (tgt := 191) hx hb dX7_court_178 (by decide) (fun c_7326 => ?_) (fun c_7326 => ?_)
                                  · skip
                                    have hG := hG.trans (if_neg c_7326)
                                    have gc_7326 := ti_ne c_7326 rfl kc_0
                                    replace gc_7326 : (-1) * x_7325.toInt + 1 ≤ 0 := om_3ff8332a gc_7326 pl_f_7303.2.2.1.1 cx_7325
                                    refine lv_aload_n hx hb dX7_court_191 rfl (lv_at hl 1 rfl) ?_
                                    refine va_get (D := (dC, dI)) (ci := 7) (v := .int z_7300) (C := RX7) (T := TX7) (N := 48) hx hb hts inX7 hown hK hP 0 rfl rfl 13 (by decide) (hts _ wd_380) (fun _ h9 => h9) rfl dX7_court_192 ?_
                                    refine lv_if_eq (tgt := 204) hx hb dX7_court_195 (by decide) (fun c_7327 => ?_) (fun c_7327 => ?_)
                                    · skip
                                      have hG := hG.trans (if_pos c_7327)
                                      have gc_7327 := ti_eq c_7327 rfl kc_0
                                      refine lv_aload_n hx hb dX7_court_204 rfl (lv_at hl 1 rfl) ?_
                                      refine va_get (D := (dC, dI)) (ci := 7) (v := .ref rM_fresh) (C := RX7) (T := TX7) (N := 48) hx hb hts inX7 hown hK hP 0 rfl rfl 16 (by decide) (hts _ wd_156) (fun _ h9 => h9) rfl dX7_court_205 ?_
                                      refine lv_bipush (v := 6) hx hb dX7_court_208 (by decide) ?_
                                      refine va_iald hx hb hK hP 4 3 rfl rfl (by unfold vp_in; decide) dX7_court_210 ?_
                                      refine lv_topi (fun x_7328 ex_7328 => ?_)
                                      have hG := hG.trans (lt_eq ex_7328)
                                      have cx_7328 : (f_7303 6).toInt = x_7328.toInt := congrArg Int32.toInt (show f_7303 6 = x_7328 from ex_7328.symm)
                                      refine lv_if_ge (tgt := 229) hx hb dX7_court_211 (by decide) (fun c_7329 => ?_) (fun c_7329 => ?_)
                                      · skip
                                        have hG := hG.trans (if_pos c_7329)
                                        have gc_7329 := ti_le c_7329 kc_0 rfl
                                        refine lv_aload_n hx hb dX7_court_229 rfl (lv_at hl 1 rfl) ?_
                                        refine va_get (D := (dC, dI)) (ci := 7) (v := .ref rM_fresh) (C := RX7) (T := TX7) (N := 48) hx hb hts inX7 hown hK hP 0 rfl rfl 16 (by decide) (hts _ wd_156) (fun _ h9 => h9) rfl dX7_court_230 ?_
                                        refine lv_iconst (v := 0) hx hb dX7_court_233 (by decide) ?_
                                        refine lv_aload_n hx hb dX7_court_234 rfl (lv_at hl 1 rfl) ?_
                                        refine va_get (D := (dC, dI)) (ci := 7) (v := .ref rM_r) (C := RX7) (T := TX7) (N := 48) hx hb hts inX7 hown hK hP 0 rfl rfl 15 (by decide) (hts _ wd_155) (fun _ h9 => h9) rfl dX7_court_235 ?_
                                        refine lv_iconst (v := 0) hx hb dX7_court_238 (by decide) ?_
                                        refine lv_sipush (v := 287) hx hb dX7_court_239 (by decide) ?_
                                        have hFc := va_free (wc := [(arI rM_fresh kM_fresh 287 f_7303), (arI rM_r kM_r 287 fM_r)]) hD hS hA [4, 3] rfl
                                        refine va_callv (va_runS (As := [.ref rM_fresh, .int 0, .ref rM_r, .int 0, .int 287]) (rest := []) ⟨hx, hb, hml, hown, hts⟩ (tX7_copy_287_287 l dC dI _ rM_fresh f_7303 kM_fresh rM_r fM_r kM_r 0 0 287 ⟨(om_b1de7dbe kc_0), (om_b1de7dbe kc_0), (om_03d58641 kc_287)⟩ (om_29114139 kc_0 kc_287) (om_29114139 kc_0 kc_287)) (va_cwS 5 hts (wd_S wd_475 wd_476 wd_5 (wd_c wd_477)) rfl rfl rfl ds_yX7_copy_5 ⟨Nat.le_of_ble_eq_true rfl, Nat.le_of_ble_eq_true rfl⟩) ⟨Pw.fb, fun U hU hW => Pw.to (hP.sub [4, 3] rfl) (hD.sub [4, 3] (by decide) rfl) (hK.sub [3, 2] rfl) hE hS hFc hU hW⟩ rfl rfl hl.1 rfl (lv_room (Nat.le_of_ble_eq_true rfl)) dX7_court_242 ⟨Nat.le_of_ble_eq_true rfl, Nat.le_of_ble_eq_true rfl⟩) hS (fun q _ h => hFc q h) hFc (fun u t H locs ht hvm hw hB hz1 hk1 hS => ?_)
                                        refine ex_1_1 hB (fun f_7330 e_f_7330_0 hB => ?_)
                                        obtain ⟨hP, hD, hK⟩ := Bw.go (ws' := [(oc7 oM x_7261 rM_tape 0 p0 z_7293 z_7294 z_7295 z_7296 z_7297 z_7298 z_7299 x_7262 rM_letters z_7300 iM_hasCourt rM_r rM_fresh rM_told rM_read rM_st rM_undone rM_kept iM_undos iM_images rM_fresher z_7301 iM_scale iM_night rM_heardRow rM_cutRow iM_breaths iM_cutMany iM_allBreaths rM_trial rM_words iM_fewestBreaths iM_orderMany iM_orderSum iM_leastOrder rM_often iM_setMany iM_someOf iM_allOf iM_allWeight iM_enoughWeight iM_worthSum iM_firstRest iM_leastDrawn), (arI rM_tape kM_tape 900 fM_tape), (arI rM_letters kM_letters 8 f_7302), (arI rM_told kM_told 90 fM_told), (arI rM_read kM_read 90 f_7304), (arI rM_st kM_st 90 fM_st), (arI rM_undone kM_undone 1440 fM_undone), (arI rM_kept kM_kept 270 fM_kept), (arI rM_fresher kM_fresher 8 f_7305), (arI rM_fresh kM_fresh 287 f_7303), (arI rM_r kM_r 287 f_7330)]) (tys' := [(kM_tape, .int), (kM_letters, .int), (kM_told, .int), (kM_read, .int), (kM_st, .int), (kM_undone, .int), (kM_kept, .int), (kM_fresher, .int), (kM_fresh, .int), (kM_r, .int)]) hB rfl ht hvm hP hD hK [4, 3] [0, 1, 2, 5, 6, 7, 8, 9, 10] rfl (by decide) (by decide) [0, 1, 4, 5, 6, 7, 8, 9] hk1 hFc rfl rfl rfl
                                        clear hz1 hk1 hvm ht hB
                                        have cr9 := cp_all (m := 287) e_f_7330_0 rfl
                                        have r_R : ROk f_7330 := ROk.congr hi0_n_7306.1.toR cr9
                                        have rq9 : RowOk f_7330 f_7304 := RowOk.fr hi0_n_7306.2.1 (cr9 1 (by decide)) (fun k hk => cr9 _ (by omega))
                                        have o1_f_7330 : (f_7330 1).toInt = (f_7303 1).toInt := by rw [cr9 1 (by decide)]
                                        have o6_f_7330 : (f_7330 6).toInt = (f_7303 6).toInt := by rw [cr9 6 (by decide)]
                                        have s_nodes := r_R.nodes
                                        have hG := hG.trans (lt_eq (CopyOk.fn e_f_7330_0).symm)
                                        refine lv_aload_n hx hb dX7_court_245 rfl (lv_at hl 1 rfl) ?_
                                        refine va_get (D := (dC, dI)) (ci := 7) (v := .ref rM_read) (C := RX7) (T := TX7) (N := 48) hx hb hts inX7 hown hK hP 0 rfl rfl 18 (by decide) (hts _ wd_158) (fun _ h9 => h9) rfl dX7_court_246 ?_
                                        refine lv_iconst (v := 0) hx hb dX7_court_249 (by decide) ?_
                                        refine lv_aload_n hx hb dX7_court_250 rfl (lv_at hl 1 rfl) ?_
                                        refine va_get (D := (dC, dI)) (ci := 7) (v := .ref rM_told) (C := RX7) (T := TX7) (N := 48) hx hb hts inX7 hown hK hP 0 rfl rfl 17 (by decide) (hts _ wd_157) (fun _ h9 => h9) rfl dX7_court_251 ?_
                                        refine lv_iconst (v := 0) hx hb dX7_court_254 (by decide) ?_
                                        refine lv_bipush (v := 90) hx hb dX7_court_255 (by decide) ?_
                                        have hFc := va_free (wc := [(arI rM_read kM_read 90 f_7304), (arI rM_told kM_told 90 fM_told)]) hD hS hA [4, 3] rfl
                                        refine va_callv (va_runS (As := [.ref rM_read, .int 0, .ref rM_told, .int 0, .int 90]) (rest := []) ⟨hx, hb, hml, hown, hts⟩ (tX7_copy_90_90 l dC dI _ rM_read f_7304 kM_read rM_told fM_told kM_told 0 0 90 ⟨(om_b1de7dbe kc_0), (om_b1de7dbe kc_0), (om_34f60646 kc_90)⟩ (om_3b9d1022 kc_0 kc_90) (om_3b9d1022 kc_0 kc_90)) (va_cwS 5 hts (wd_S wd_475 wd_476 wd_5 (wd_c wd_477)) rfl rfl rfl ds_yX7_copy_5 ⟨Nat.le_of_ble_eq_true rfl, Nat.le_of_ble_eq_true rfl⟩) ⟨Pw.fb, fun U hU hW => Pw.to (hP.sub [4, 3] rfl) (hD.sub [4, 3] (by decide) rfl) (hK.sub [3, 2] rfl) hE hS hFc hU hW⟩ rfl rfl hl.1 rfl (lv_room (Nat.le_of_ble_eq_true rfl)) dX7_court_257 ⟨Nat.le_of_ble_eq_true rfl, Nat.le_of_ble_eq_true rfl⟩) hS (fun q _ h => hFc q h) hFc (fun u t H locs ht hvm hw hB hz1 hk1 hS => ?_)
                                        refine ex_1_1 hB (fun f_7331 e_f_7331_0 hB => ?_)
                                        obtain ⟨hP, hD, hK⟩ := Bw.go (ws' := [(oc7 oM x_7261 rM_tape 0 p0 z_7293 z_7294 z_7295 z_7296 z_7297 z_7298 z_7299 x_7262 rM_letters z_7300 iM_hasCourt rM_r rM_fresh rM_told rM_read rM_st rM_undone rM_kept iM_undos iM_images rM_fresher z_7301 iM_scale iM_night rM_heardRow rM_cutRow iM_breaths iM_cutMany iM_allBreaths rM_trial rM_words iM_fewestBreaths iM_orderMany iM_orderSum iM_leastOrder rM_often iM_setMany iM_someOf iM_allOf iM_allWeight iM_enoughWeight iM_worthSum iM_firstRest iM_leastDrawn), (arI rM_tape kM_tape 900 fM_tape), (arI rM_letters kM_letters 8 f_7302), (arI rM_st kM_st 90 fM_st), (arI rM_undone kM_undone 1440 fM_undone), (arI rM_kept kM_kept 270 fM_kept), (arI rM_fresher kM_fresher 8 f_7305), (arI rM_fresh kM_fresh 287 f_7303), (arI rM_r kM_r 287 f_7330), (arI rM_read kM_read 90 f_7304), (arI rM_told kM_told 90 f_7331)]) (tys' := [(kM_tape, .int), (kM_letters, .int), (kM_st, .int), (kM_undone, .int), (kM_kept, .int), (kM_fresher, .int), (kM_fresh, .int), (kM_r, .int), (kM_read, .int), (kM_told, .int)]) hB rfl ht hvm hP hD hK [4, 3] [0, 1, 2, 5, 6, 7, 8, 9, 10] rfl (by decide) (by decide) [0, 1, 4, 5, 6, 7, 8, 9] hk1 hFc rfl rfl rfl
                                        clear hz1 hk1 hvm ht hB
                                        have r_f_7331 : RowOk f_7330 f_7331 := RowOk.copy r_R rq9 e_f_7331_0
                                        have hG := hG.trans (lt_eq (CopyOk.fn e_f_7331_0).symm)
                                        refine lv_aload_n hx hb dX7_court_260 rfl (lv_at hl 1 rfl) ?_
                                        refine va_get (D := (dC, dI)) (ci := 7) (v := .ref rM_read) (C := RX7) (T := TX7) (N := 48) hx hb hts inX7 hown hK hP 0 rfl rfl 18 (by decide) (hts _ wd_158) (fun _ h9 => h9) rfl dX7_court_261 ?_
                                        refine lv_iconst (v := 0) hx hb dX7_court_264 (by decide) ?_
                                        refine lv_aload_n hx hb dX7_court_265 rfl (lv_at hl 1 rfl) ?_
                                        refine va_get (D := (dC, dI)) (ci := 7) (v := .ref rM_st) (C := RX7) (T := TX7) (N := 48) hx hb hts inX7 hown hK hP 0 rfl rfl 19 (by decide) (hts _ wd_159) (fun _ h9 => h9) rfl dX7_court_266 ?_
                                        refine lv_iconst (v := 0) hx hb dX7_court_269 (by decide) ?_
                                        refine lv_bipush (v := 90) hx hb dX7_court_270 (by decide) ?_
                                        have hFc := va_free (wc := [(arI rM_read kM_read 90 f_7304), (arI rM_st kM_st 90 fM_st)]) hD hS hA [9, 3] rfl
                                        refine va_callv (va_runS (As := [.ref rM_read, .int 0, .ref rM_st, .int 0, .int 90]) (rest := []) ⟨hx, hb, hml, hown, hts⟩ (tX7_copy_90_90 l dC dI _ rM_read f_7304 kM_read rM_st fM_st kM_st 0 0 90 ⟨(om_b1de7dbe kc_0), (om_b1de7dbe kc_0), (om_34f60646 kc_90)⟩ (om_3b9d1022 kc_0 kc_90) (om_3b9d1022 kc_0 kc_90)) (va_cwS 5 hts (wd_S wd_475 wd_476 wd_5 (wd_c wd_477)) rfl rfl rfl ds_yX7_copy_5 ⟨Nat.le_of_ble_eq_true rfl, Nat.le_of_ble_eq_true rfl⟩) ⟨Pw.fb, fun U hU hW => Pw.to (hP.sub [9, 3] rfl) (hD.sub [9, 3] (by decide) rfl) (hK.sub [8, 2] rfl) hE hS hFc hU hW⟩ rfl rfl hl.1 rfl (lv_room (Nat.le_of_ble_eq_true rfl)) dX7_court_272 ⟨Nat.le_of_ble_eq_true rfl, Nat.le_of_ble_eq_true rfl⟩) hS (fun q _ h => hFc q h) hFc (fun u t H locs ht hvm hw hB hz1 hk1 hS => ?_)
                                        refine ex_1_1 hB (fun f_7332 e_f_7332_0 hB => ?_)
                                        obtain ⟨hP, hD, hK⟩ := Bw.go (ws' := [(oc7 oM x_7261 rM_tape 0 p0 z_7293 z_7294 z_7295 z_7296 z_7297 z_7298 z_7299 x_7262 rM_letters z_7300 iM_hasCourt rM_r rM_fresh rM_told rM_read rM_st rM_undone rM_kept iM_undos iM_images rM_fresher z_7301 iM_scale iM_night rM_heardRow rM_cutRow iM_breaths iM_cutMany iM_allBreaths rM_trial rM_words iM_fewestBreaths iM_orderMany iM_orderSum iM_leastOrder rM_often iM_setMany iM_someOf iM_allOf iM_allWeight iM_enoughWeight iM_worthSum iM_firstRest iM_leastDrawn), (arI rM_tape kM_tape 900 fM_tape), (arI rM_letters kM_letters 8 f_7302), (arI rM_undone kM_undone 1440 fM_undone), (arI rM_kept kM_kept 270 fM_kept), (arI rM_fresher kM_fresher 8 f_7305), (arI rM_fresh kM_fresh 287 f_7303), (arI rM_r kM_r 287 f_7330), (arI rM_told kM_told 90 f_7331), (arI rM_read kM_read 90 f_7304), (arI rM_st kM_st 90 f_7332)]) (tys' := [(kM_tape, .int), (kM_letters, .int), (kM_undone, .int), (kM_kept, .int), (kM_fresher, .int), (kM_fresh, .int), (kM_r, .int), (kM_told, .int), (kM_read, .int), (kM_st, .int)]) hB rfl ht hvm hP hD hK [9, 3] [0, 1, 2, 4, 5, 6, 7, 8, 10] rfl (by decide) (by decide) [0, 1, 3, 4, 5, 6, 7, 9] hk1 hFc rfl rfl rfl
                                        clear hz1 hk1 hvm ht hB
                                        have r_f_7332 : RowOk f_7330 f_7332 := RowOk.copy r_R rq9 e_f_7332_0
                                        have w_f_7332 : WorOk f_7332 := WorOk.congr hi0_n_7306.2.2 (fun j _ h2 => cp_all (m := 90) e_f_7332_0 rfl j h2)
                                        have hG := hG.trans (lt_eq (CopyOk.fn e_f_7332_0).symm)
                                        refine lv_aload_n hx hb dX7_court_275 rfl (lv_at hl 1 rfl) ?_
                                        have hMs := ml_of hD [true, false, false, false, false, false, false, true, false, false, false] (wc := [(oc7 oM x_7261 rM_tape 0 p0 z_7293 z_7294 z_7295 z_7296 z_7297 z_7298 z_7299 x_7262 rM_letters z_7300 iM_hasCourt rM_r rM_fresh rM_told rM_read rM_st rM_undone rM_kept iM_undos iM_images rM_fresher z_7301 iM_scale iM_night rM_heardRow rM_cutRow iM_breaths iM_cutMany iM_allBreaths rM_trial rM_words iM_fewestBreaths iM_orderMany iM_orderSum iM_leastOrder rM_often iM_setMany iM_someOf iM_allOf iM_allWeight iM_enoughWeight iM_worthSum iM_firstRest iM_leastDrawn), (arI rM_r kM_r 287 f_7330)]) rfl
                                        have hFc := va_freeM hD hS hA _ hMs
                                        refine va_callv (va_runV (As := []) (rest := []) ⟨hx, hb, hml, hown, hts⟩ (tX7_layScale l dC dI _ oM x_7261 rM_tape 0 p0 z_7293 z_7294 z_7295 z_7296 z_7297 z_7298 z_7299 x_7262 rM_letters z_7300 iM_hasCourt rM_r f_7330 kM_r rM_fresh rM_told rM_read rM_st rM_undone rM_kept iM_undos iM_images rM_fresher z_7301 iM_scale iM_night rM_heardRow rM_cutRow iM_breaths iM_cutMany iM_allBreaths rM_trial rM_words iM_fewestBreaths iM_orderMany iM_orderSum iM_leastOrder rM_often iM_setMany iM_someOf iM_allOf iM_allWeight iM_enoughWeight iM_worthSum iM_firstRest iM_leastDrawn (by first | decide | omega) (by first | exact ⟨by omega, by omega⟩ | omega | decide) b_z_7294 b_z_7300 b_iM_hasCourt b_iM_undos b_iM_images b_iM_scale b_iM_breaths b_iM_cutMany (by assumption) (by first | assumption | omega)) (cwV 0 hts (wd_V wd_502 wd_503 wd_504 wd_5 (wd_c wd_505)) rfl rfl rfl dv_yX7_layScale_0 ⟨Nat.le_of_ble_eq_true rfl, Nat.le_of_ble_eq_true rfl⟩) ⟨Pw.fb, recvX7 hK hP (q0 := 0) rfl, fun U hU hW => Pw.to (hP.ms _ hMs) (hD.ms _ hMs) (hK.ms [false, false, false, false, false, false, true, false, false, false] rfl) hE hS hFc hU hW⟩ rfl rfl hl.1 rfl (lv_room (Nat.le_of_ble_eq_true rfl)) dX7_court_276 ⟨Nat.le_of_ble_eq_true rfl, Nat.le_of_ble_eq_true rfl⟩) hS (fun q _ h => hFc q h) hFc (fun u t H locs ht hvm hw hB hz1 hk1 hS => ?_)
                                        refine ex_1_2 hB (fun x_7333 b_x_7333 e_x_7333_0 hB => ?_)
                                        obtain ⟨hP, hD⟩ := Bw.goN (ws' := [(oc7 oM x_7261 rM_tape 0 p0 z_7293 z_7294 z_7295 z_7296 z_7297 z_7298 z_7299 x_7262 rM_letters z_7300 iM_hasCourt rM_r rM_fresh rM_told rM_read rM_st rM_undone rM_kept iM_undos iM_images rM_fresher z_7301 x_7333 iM_night rM_heardRow rM_cutRow iM_breaths iM_cutMany iM_allBreaths rM_trial rM_words iM_fewestBreaths iM_orderMany iM_orderSum iM_leastOrder rM_often iM_setMany iM_someOf iM_allOf iM_allWeight iM_enoughWeight iM_worthSum iM_firstRest iM_leastDrawn), (arI rM_tape kM_tape 900 fM_tape), (arI rM_letters kM_letters 8 f_7302), (arI rM_undone kM_undone 1440 fM_undone), (arI rM_kept kM_kept 270 fM_kept), (arI rM_fresher kM_fresher 8 f_7305), (arI rM_fresh kM_fresh 287 f_7303), (arI rM_r kM_r 287 f_7330), (arI rM_told kM_told 90 f_7331), (arI rM_read kM_read 90 f_7304), (arI rM_st kM_st 90 f_7332)]) hB rfl ht hP hD _ hMs hk1 hFc rfl
                                        clear hz1 hk1 hvm ht hB hMs
                                        have hG := hG.trans (lt_eq e_x_7333_0.symm)
                                        refine lv_aload_n hx hb dX7_court_279 rfl (lv_at hl 1 rfl) ?_
                                        refine lv_iconst (v := 1) hx hb dX7_court_280 (by decide) ?_
                                        refine va_put (D := (dC, dI)) (ci := 7) (v := .int 1) (ty := .boolean) (C := RX7) (T := TX7) (N := 48) hx hb hts inX7 tyX7 tyX7_ok nmX7 hown hK hP hD hS 0 rfl rfl 14 (by decide) (hts _ wd_385) (fun _ h9 => h9) rfl (by decide +kernel) rfl rfl (Nat.le_of_ble_eq_true rfl) dX7_court_281 (fun H locs hP hD hS => ?_)
                                        obtain ⟨hP, hD⟩ := wl2 (ws' := [(oc7 oM x_7261 rM_tape 0 p0 z_7293 z_7294 z_7295 z_7296 z_7297 z_7298 z_7299 x_7262 rM_letters z_7300 1 rM_r rM_fresh rM_told rM_read rM_st rM_undone rM_kept iM_undos iM_images rM_fresher z_7301 x_7333 iM_night rM_heardRow rM_cutRow iM_breaths iM_cutMany iM_allBreaths rM_trial rM_words iM_fewestBreaths iM_orderMany iM_orderSum iM_leastOrder rM_often iM_setMany iM_someOf iM_allOf iM_allWeight iM_enoughWeight iM_worthSum iM_firstRest iM_leastDrawn), (arI rM_tape kM_tape 900 fM_tape), (arI rM_letters kM_letters 8 f_7302), (arI rM_undone kM_undone 1440 fM_undone), (arI rM_kept kM_kept 270 fM_kept), (arI rM_fresher kM_fresher 8 f_7305), (arI rM_fresh kM_fresh 287 f_7303), (arI rM_r kM_r 287 f_7330), (arI rM_told kM_told 90 f_7331), (arI rM_read kM_read 90 f_7304), (arI rM_st kM_st 90 f_7332)]) hP hD rfl
                                        refine lv_aload_n hx hb dX7_court_284 rfl (lv_at hl 1 rfl) ?_
                                        refine lv_iconst (v := 0) hx hb dX7_court_285 (by decide) ?_
                                        refine va_put (D := (dC, dI)) (ci := 7) (v := .int 0) (ty := .int) (C := RX7) (T := TX7) (N := 48) hx hb hts inX7 tyX7 tyX7_ok nmX7 hown hK hP hD hS 0 rfl rfl 22 (by decide) (hts _ wd_386) (fun _ h9 => h9) rfl (by decide +kernel) rfl rfl (Nat.le_of_ble_eq_true rfl) dX7_court_286 (fun H locs hP hD hS => ?_)
                                        obtain ⟨hP, hD⟩ := wl2 (ws' := [(oc7 oM x_7261 rM_tape 0 p0 z_7293 z_7294 z_7295 z_7296 z_7297 z_7298 z_7299 x_7262 rM_letters z_7300 1 rM_r rM_fresh rM_told rM_read rM_st rM_undone rM_kept 0 iM_images rM_fresher z_7301 x_7333 iM_night rM_heardRow rM_cutRow iM_breaths iM_cutMany iM_allBreaths rM_trial rM_words iM_fewestBreaths iM_orderMany iM_orderSum iM_leastOrder rM_often iM_setMany iM_someOf iM_allOf iM_allWeight iM_enoughWeight iM_worthSum iM_firstRest iM_leastDrawn), (arI rM_tape kM_tape 900 fM_tape), (arI rM_letters kM_letters 8 f_7302), (arI rM_undone kM_undone 1440 fM_undone), (arI rM_kept kM_kept 270 fM_kept), (arI rM_fresher kM_fresher 8 f_7305), (arI rM_fresh kM_fresh 287 f_7303), (arI rM_r kM_r 287 f_7330), (arI rM_told kM_told 90 f_7331), (arI rM_read kM_read 90 f_7304), (arI rM_st kM_st 90 f_7332)]) hP hD rfl
                                        refine lv_aload_n hx hb dX7_court_289 rfl (lv_at hl 1 rfl) ?_
                                        refine lv_iconst (v := 0) hx hb dX7_court_290 (by decide) ?_
                                        refine va_put (D := (dC, dI)) (ci := 7) (v := .int 0) (ty := .int) (C := RX7) (T := TX7) (N := 48) hx hb hts inX7 tyX7 tyX7_ok nmX7 hown hK hP hD hS 0 rfl rfl 23 (by decide) (hts _ wd_387) (fun _ h9 => h9) rfl (by decide +kernel) rfl rfl (Nat.le_of_ble_eq_true rfl) dX7_court_291 (fun H locs hP hD hS => ?_)
                                        obtain ⟨hP, hD⟩ := wl2 (ws' := [(oc7 oM x_7261 rM_tape 0 p0 z_7293 z_7294 z_7295 z_7296 z_7297 z_7298 z_7299 x_7262 rM_letters z_7300 1 rM_r rM_fresh rM_told rM_read rM_st rM_undone rM_kept 0 0 rM_fresher z_7301 x_7333 iM_night rM_heardRow rM_cutRow iM_breaths iM_cutMany iM_allBreaths rM_trial rM_words iM_fewestBreaths iM_orderMany iM_orderSum iM_leastOrder rM_often iM_setMany iM_someOf iM_allOf iM_allWeight iM_enoughWeight iM_worthSum iM_firstRest iM_leastDrawn), (arI rM_tape kM_tape 900 fM_tape), (arI rM_letters kM_letters 8 f_7302), (arI rM_undone kM_undone 1440 fM_undone), (arI rM_kept kM_kept 270 fM_kept), (arI rM_fresher kM_fresher 8 f_7305), (arI rM_fresh kM_fresh 287 f_7303), (arI rM_r kM_r 287 f_7330), (arI rM_told kM_told 90 f_7331), (arI rM_read kM_read 90 f_7304), (arI rM_st kM_st 90 f_7332)]) hP hD rfl
                                        refine lv_aload_n hx hb dX7_court_294 rfl (lv_at hl 1 rfl) ?_
                                        refine va_get (D := (dC, dI)) (ci := 7) (v := .ref rM_r) (C := RX7) (T := TX7) (N := 48) hx hb hts inX7 hown hK hP 0 rfl rfl 15 (by decide) (hts _ wd_155) (fun _ h9 => h9) rfl dX7_court_295 ?_
                                        refine lv_iconst (v := 1) hx hb dX7_court_298 (by decide) ?_
                                        refine va_iald hx hb hK hP 7 6 rfl rfl (by unfold vp_in; decide) dX7_court_299 ?_
                                        refine lv_topi (fun x_7334 ex_7334 => ?_)
                                        have hG := hG.trans (lt_eq ex_7334)
                                        have cx_7334 : (f_7330 1).toInt = x_7334.toInt := congrArg Int32.toInt (show f_7330 1 = x_7334 from ex_7334.symm)
                                        have sx_7334 := r_R.nodes
                                        exact wq_i hx hb hr (cI x_7334) ⟨⟨trivial, trivial⟩, (cI_of x_7334)⟩ (fun t ht hW => ⟨x_7261, 0, p0, z_7293, z_7294, z_7295, z_7296, z_7297, z_7298, z_7299, x_7262, z_7300, 1, 0, 0, z_7301, x_7333, f_7302, f_7330, f_7303, f_7331, f_7304, f_7332, f_7305, (by decide), ⟨by omega, by omega⟩, b_z_7294, b_z_7297, b_z_7300, (by decide), (by decide), (by decide), b_x_7333, (by have q0 := kc_0; have q1 := kc_1; first | assumption | omega), (by have q0 := kc_0; have q1 := kc_1; first | assumption | omega), (by have q0 := kc_0; have q1 := kc_1; first | assumption | omega), (by have q0 := kc_0; have q1 := kc_1; first | assumption | omega), (by have q0 := kc_0; have q1 := kc_1; first | assumption | omega), (HistOk.none (by have q := kc_0; omega)), (HistOk.none (by have q := kc_0; omega)), hi1_n_7306, (by have q0 := kc_0; have q1 := kc_1; first | assumption | omega), (cI_tup hG), Bw.to (hP.sub [0, 1, 2, 7, 6, 8, 9, 10, 3, 4, 5] rfl) (hD.sub [0, 1, 2, 7, 6, 8, 9, 10, 3, 4, 5] (by decide) rfl) (hK.sub [0, 1, 6, 5, 7, 8, 9, 2, 3, 4] rfl) ht hW⟩) hS dX7_court_300 hlocks
                                      · skip
                                        have hG := hG.trans (if_neg c_7329)
                                        have gc_7329 := ti_nle c_7329 kc_0 rfl
                                        refine lv_aload_n hx hb dX7_court_214 rfl (lv_at hl 1 rfl) ?_
                                        refine va_get (D := (dC, dI)) (ci := 7) (v := .ref rM_fresh) (C := RX7) (T := TX7) (N := 48) hx hb hts inX7 hown hK hP 0 rfl rfl 16 (by decide) (hts _ wd_156) (fun _ h9 => h9) rfl dX7_court_215 ?_
                                        refine lv_bipush (v := 6) hx hb dX7_court_218 (by decide) ?_
                                        refine lv_aload_n hx hb dX7_court_220 rfl (lv_at hl 1 rfl) ?_
                                        refine va_get (D := (dC, dI)) (ci := 7) (v := .ref rM_fresh) (C := RX7) (T := TX7) (N := 48) hx hb hts inX7 hown hK hP 0 rfl rfl 16 (by decide) (hts _ wd_156) (fun _ h9 => h9) rfl dX7_court_221 ?_
                                        refine lv_iconst (v := 1) hx hb dX7_court_224 (by decide) ?_
                                        refine va_iald hx hb hK hP 4 3 rfl rfl (by unfold vp_in; decide) dX7_court_225 ?_
                                        refine lv_topi (fun x_7335 ex_7335 => ?_)
                                        have hG := hG.trans (lt_eq ex_7335)
                                        have cx_7335 : (f_7303 1).toInt = x_7335.toInt := congrArg Int32.toInt (show f_7303 1 = x_7335 from ex_7335.symm)
                                        refine lv_iconst (v := 1) hx hb dX7_court_226 (by decide) ?_
                                        refine lv_isub hx hb dX7_court_227 ?_
                                        refine lv_topi (fun x_7336 ex_7336 => ?_)
                                        have hG := hG.trans (lt_eq ex_7336)
                                        have vx_7336 : x_7336.toInt = x_7335.toInt + (-1) := om_89646172 (ti_sub ex_7336 rfl kc_1 (om_a5725a83 pl_f_7303.2.2.2.2.1.1 pl_f_7303.2.2.2.2.1.2 cx_7335) (om_1d5f9f43 pl_f_7303.2.1 pl_f_7303.2.2.1.2 pl_f_7303.2.2.2.2.2.1.2 cx_7335))
                                        refine va_iast hx hb hK hP hD hS 4 3 rfl rfl (by unfold vp_in; decide) dX7_court_228 (fun H locs hP hD hS => ?_)
                                        obtain ⟨f_7337, ef_7337⟩ : ∃ g : Nat → Int32, g = upd f_7303 (6 : Int32).toNatClampNeg x_7336 := ⟨_, rfl⟩
                                        rw [← ef_7337] at hP hD
                                        have hG := hG.trans (lt_eq ef_7337)
                                        obtain ⟨hP, hD⟩ := wl2 (ws' := [(oc7 oM x_7261 rM_tape 0 p0 z_7293 z_7294 z_7295 z_7296 z_7297 z_7298 z_7299 x_7262 rM_letters z_7300 iM_hasCourt rM_r rM_fresh rM_told rM_read rM_st rM_undone rM_kept iM_undos iM_images rM_fresher z_7301 iM_scale iM_night rM_heardRow rM_cutRow iM_breaths iM_cutMany iM_allBreaths rM_trial rM_words iM_fewestBreaths iM_orderMany iM_orderSum iM_leastOrder rM_often iM_setMany iM_someOf iM_allOf iM_allWeight iM_enoughWeight iM_worthSum iM_firstRest iM_leastDrawn), (arI rM_tape kM_tape 900 fM_tape), (arI rM_letters kM_letters 8 f_7302), (arI rM_r kM_r 287 fM_r), (arI rM_fresh kM_fresh 287 f_7337), (arI rM_told kM_told 90 fM_told), (arI rM_read kM_read 90 f_7304), (arI rM_st kM_st 90 fM_st), (arI rM_undone kM_undone 1440 fM_undone), (arI rM_kept kM_kept 270 fM_kept), (arI rM_fresher kM_fresher 8 f_7305)]) hP hD rfl
                                        have pk_f_7337 : POk f_7337 f_7304 := POk.put hi0_n_7306 ef_7337 (Or.inr (Or.inr (Or.inr (Or.inl (by have q9 : ((6 : Int32).toNatClampNeg : Nat) = 6 := rfl; omega)))))
                                        have pl_f_7337 := pk_f_7337.lins
                                        have o1_f_7337 : (f_7337 1).toInt = (f_7303 1).toInt := put_at ef_7337 (by decide)
                                        have o2_f_7337 : (f_7337 2).toInt = (f_7303 2).toInt := put_at ef_7337 (by decide)
                                        have o7_f_7337 : (f_7337 7).toInt = (f_7303 7).toInt := put_at ef_7337 (by decide)
                                        have i6_f_7337 : (f_7337 6).toInt = x_7336.toInt := put_is ef_7337 rfl
                                        refine lv_aload_n hx hb dX7_court_229 rfl (lv_at hl 1 rfl) ?_
                                        refine va_get (D := (dC, dI)) (ci := 7) (v := .ref rM_fresh) (C := RX7) (T := TX7) (N := 48) hx hb hts inX7 hown hK hP 0 rfl rfl 16 (by decide) (hts _ wd_156) (fun _ h9 => h9) rfl dX7_court_230 ?_
                                        refine lv_iconst (v := 0) hx hb dX7_court_233 (by decide) ?_
                                        refine lv_aload_n hx hb dX7_court_234 rfl (lv_at hl 1 rfl) ?_
                                        refine va_get (D := (dC, dI)) (ci := 7) (v := .ref rM_r) (C := RX7) (T := TX7) (N := 48) hx hb hts inX7 hown hK hP 0 rfl rfl 15 (by decide) (hts _ wd_155) (fun _ h9 => h9) rfl dX7_court_235 ?_
                                        refine lv_iconst (v := 0) hx hb dX7_court_238 (by decide) ?_
                                        refine lv_sipush (v := 287) hx hb dX7_court_239 (by decide) ?_
                                        have hFc := va_free (wc := [(arI rM_fresh kM_fresh 287 f_7337), (arI rM_r kM_r 287 fM_r)]) hD hS hA [4, 3] rfl
                                        refine va_callv (va_runS (As := [.ref rM_fresh, .int 0, .ref rM_r, .int 0, .int 287]) (rest := []) ⟨hx, hb, hml, hown, hts⟩ (tX7_copy_287_287 l dC dI _ rM_fresh f_7337 kM_fresh rM_r fM_r kM_r 0 0 287 ⟨(om_b1de7dbe kc_0), (om_b1de7dbe kc_0), (om_03d58641 kc_287)⟩ (om_29114139 kc_0 kc_287) (om_29114139 kc_0 kc_287)) (va_cwS 5 hts (wd_S wd_475 wd_476 wd_5 (wd_c wd_477)) rfl rfl rfl ds_yX7_copy_5 ⟨Nat.le_of_ble_eq_true rfl, Nat.le_of_ble_eq_true rfl⟩) ⟨Pw.fb, fun U hU hW => Pw.to (hP.sub [4, 3] rfl) (hD.sub [4, 3] (by decide) rfl) (hK.sub [3, 2] rfl) hE hS hFc hU hW⟩ rfl rfl hl.1 rfl (lv_room (Nat.le_of_ble_eq_true rfl)) dX7_court_242 ⟨Nat.le_of_ble_eq_true rfl, Nat.le_of_ble_eq_true rfl⟩) hS (fun q _ h => hFc q h) hFc (fun u t H locs ht hvm hw hB hz1 hk1 hS => ?_)
                                        refine ex_1_1 hB (fun f_7338 e_f_7338_0 hB => ?_)
                                        obtain ⟨hP, hD, hK⟩ := Bw.go (ws' := [(oc7 oM x_7261 rM_tape 0 p0 z_7293 z_7294 z_7295 z_7296 z_7297 z_7298 z_7299 x_7262 rM_letters z_7300 iM_hasCourt rM_r rM_fresh rM_told rM_read rM_st rM_undone rM_kept iM_undos iM_images rM_fresher z_7301 iM_scale iM_night rM_heardRow rM_cutRow iM_breaths iM_cutMany iM_allBreaths rM_trial rM_words iM_fewestBreaths iM_orderMany iM_orderSum iM_leastOrder rM_often iM_setMany iM_someOf iM_allOf iM_allWeight iM_enoughWeight iM_worthSum iM_firstRest iM_leastDrawn), (arI rM_tape kM_tape 900 fM_tape), (arI rM_letters kM_letters 8 f_7302), (arI rM_told kM_told 90 fM_told), (arI rM_read kM_read 90 f_7304), (arI rM_st kM_st 90 fM_st), (arI rM_undone kM_undone 1440 fM_undone), (arI rM_kept kM_kept 270 fM_kept), (arI rM_fresher kM_fresher 8 f_7305), (arI rM_fresh kM_fresh 287 f_7337), (arI rM_r kM_r 287 f_7338)]) (tys' := [(kM_tape, .int), (kM_letters, .int), (kM_told, .int), (kM_read, .int), (kM_st, .int), (kM_undone, .int), (kM_kept, .int), (kM_fresher, .int), (kM_fresh, .int), (kM_r, .int)]) hB rfl ht hvm hP hD hK [4, 3] [0, 1, 2, 5, 6, 7, 8, 9, 10] rfl (by decide) (by decide) [0, 1, 4, 5, 6, 7, 8, 9] hk1 hFc rfl rfl rfl
                                        clear hz1 hk1 hvm ht hB
                                        have cr9 := cp_all (m := 287) e_f_7338_0 rfl
                                        have r_R : ROk f_7338 := ROk.congr pk_f_7337.1.toR cr9
                                        have rq9 : RowOk f_7338 f_7304 := RowOk.fr pk_f_7337.2.1 (cr9 1 (by decide)) (fun k hk => cr9 _ (by omega))
                                        have o1_f_7338 : (f_7338 1).toInt = (f_7337 1).toInt := by rw [cr9 1 (by decide)]
                                        have o6_f_7338 : (f_7338 6).toInt = (f_7337 6).toInt := by rw [cr9 6 (by decide)]
                                        have s_nodes := r_R.nodes
                                        have hG := hG.trans (lt_eq (CopyOk.fn e_f_7338_0).symm)
                                        refine lv_aload_n hx hb dX7_court_245 rfl (lv_at hl 1 rfl) ?_
                                        refine va_get (D := (dC, dI)) (ci := 7) (v := .ref rM_read) (C := RX7) (T := TX7) (N := 48) hx hb hts inX7 hown hK hP 0 rfl rfl 18 (by decide) (hts _ wd_158) (fun _ h9 => h9) rfl dX7_court_246 ?_
                                        refine lv_iconst (v := 0) hx hb dX7_court_249 (by decide) ?_
                                        refine lv_aload_n hx hb dX7_court_250 rfl (lv_at hl 1 rfl) ?_
                                        refine va_get (D := (dC, dI)) (ci := 7) (v := .ref rM_told) (C := RX7) (T := TX7) (N := 48) hx hb hts inX7 hown hK hP 0 rfl rfl 17 (by decide) (hts _ wd_157) (fun _ h9 => h9) rfl dX7_court_251 ?_
                                        refine lv_iconst (v := 0) hx hb dX7_court_254 (by decide) ?_
                                        refine lv_bipush (v := 90) hx hb dX7_court_255 (by decide) ?_
                                        have hFc := va_free (wc := [(arI rM_read kM_read 90 f_7304), (arI rM_told kM_told 90 fM_told)]) hD hS hA [4, 3] rfl
                                        refine va_callv (va_runS (As := [.ref rM_read, .int 0, .ref rM_told, .int 0, .int 90]) (rest := []) ⟨hx, hb, hml, hown, hts⟩ (tX7_copy_90_90 l dC dI _ rM_read f_7304 kM_read rM_told fM_told kM_told 0 0 90 ⟨(om_b1de7dbe kc_0), (om_b1de7dbe kc_0), (om_34f60646 kc_90)⟩ (om_3b9d1022 kc_0 kc_90) (om_3b9d1022 kc_0 kc_90)) (va_cwS 5 hts (wd_S wd_475 wd_476 wd_5 (wd_c wd_477)) rfl rfl rfl ds_yX7_copy_5 ⟨Nat.le_of_ble_eq_true rfl, Nat.le_of_ble_eq_true rfl⟩) ⟨Pw.fb, fun U hU hW => Pw.to (hP.sub [4, 3] rfl) (hD.sub [4, 3] (by decide) rfl) (hK.sub [3, 2] rfl) hE hS hFc hU hW⟩ rfl rfl hl.1 rfl (lv_room (Nat.le_of_ble_eq_true rfl)) dX7_court_257 ⟨Nat.le_of_ble_eq_true rfl, Nat.le_of_ble_eq_true rfl⟩) hS (fun q _ h => hFc q h) hFc (fun u t H locs ht hvm hw hB hz1 hk1 hS => ?_)
                                        refine ex_1_1 hB (fun f_7339 e_f_7339_0 hB => ?_)
                                        obtain ⟨hP, hD, hK⟩ := Bw.go (ws' := [(oc7 oM x_7261 rM_tape 0 p0 z_7293 z_7294 z_7295 z_7296 z_7297 z_7298 z_7299 x_7262 rM_letters z_7300 iM_hasCourt rM_r rM_fresh rM_told rM_read rM_st rM_undone rM_kept iM_undos iM_images rM_fresher z_7301 iM_scale iM_night rM_heardRow rM_cutRow iM_breaths iM_cutMany iM_allBreaths rM_trial rM_words iM_fewestBreaths iM_orderMany iM_orderSum iM_leastOrder rM_often iM_setMany iM_someOf iM_allOf iM_allWeight iM_enoughWeight iM_worthSum iM_firstRest iM_leastDrawn), (arI rM_tape kM_tape 900 fM_tape), (arI rM_letters kM_letters 8 f_7302), (arI rM_st kM_st 90 fM_st), (arI rM_undone kM_undone 1440 fM_undone), (arI rM_kept kM_kept 270 fM_kept), (arI rM_fresher kM_fresher 8 f_7305), (arI rM_fresh kM_fresh 287 f_7337), (arI rM_r kM_r 287 f_7338), (arI rM_read kM_read 90 f_7304), (arI rM_told kM_told 90 f_7339)]) (tys' := [(kM_tape, .int), (kM_letters, .int), (kM_st, .int), (kM_undone, .int), (kM_kept, .int), (kM_fresher, .int), (kM_fresh, .int), (kM_r, .int), (kM_read, .int), (kM_told, .int)]) hB rfl ht hvm hP hD hK [4, 3] [0, 1, 2, 5, 6, 7, 8, 9, 10] rfl (by decide) (by decide) [0, 1, 4, 5, 6, 7, 8, 9] hk1 hFc rfl rfl rfl
                                        clear hz1 hk1 hvm ht hB
                                        have r_f_7339 : RowOk f_7338 f_7339 := RowOk.copy r_R rq9 e_f_7339_0
                                        have hG := hG.trans (lt_eq (CopyOk.fn e_f_7339_0).symm)
                                        refine lv_aload_n hx hb dX7_court_260 rfl (lv_at hl 1 rfl) ?_
                                        refine va_get (D := (dC, dI)) (ci := 7) (v := .ref rM_read) (C := RX7) (T := TX7) (N := 48) hx hb hts inX7 hown hK hP 0 rfl rfl 18 (by decide) (hts _ wd_158) (fun _ h9 => h9) rfl dX7_court_261 ?_
                                        refine lv_iconst (v := 0) hx hb dX7_court_264 (by decide) ?_
                                        refine lv_aload_n hx hb dX7_court_265 rfl (lv_at hl 1 rfl) ?_
                                        refine va_get (D := (dC, dI)) (ci := 7) (v := .ref rM_st) (C := RX7) (T := TX7) (N := 48) hx hb hts inX7 hown hK hP 0 rfl rfl 19 (by decide) (hts _ wd_159) (fun _ h9 => h9) rfl dX7_court_266 ?_
                                        refine lv_iconst (v := 0) hx hb dX7_court_269 (by decide) ?_
                                        refine lv_bipush (v := 90) hx hb dX7_court_270 (by decide) ?_
                                        have hFc := va_free (wc := [(arI rM_read kM_read 90 f_7304), (arI rM_st kM_st 90 fM_st)]) hD hS hA [9, 3] rfl
                                        refine va_callv (va_runS (As := [.ref rM_read, .int 0, .ref rM_st, .int 0, .int 90]) (rest := []) ⟨hx, hb, hml, hown, hts⟩ (tX7_copy_90_90 l dC dI _ rM_read f_7304 kM_read rM_st fM_st kM_st 0 0 90 ⟨(om_b1de7dbe kc_0), (om_b1de7dbe kc_0), (om_34f60646 kc_90)⟩ (om_3b9d1022 kc_0 kc_90) (om_3b9d1022 kc_0 kc_90)) (va_cwS 5 hts (wd_S wd_475 wd_476 wd_5 (wd_c wd_477)) rfl rfl rfl ds_yX7_copy_5 ⟨Nat.le_of_ble_eq_true rfl, Nat.le_of_ble_eq_true rfl⟩) ⟨Pw.fb, fun U hU hW => Pw.to (hP.sub [9, 3] rfl) (hD.sub [9, 3] (by decide) rfl) (hK.sub [8, 2] rfl) hE hS hFc hU hW⟩ rfl rfl hl.1 rfl (lv_room (Nat.le_of_ble_eq_true rfl)) dX7_court_272 ⟨Nat.le_of_ble_eq_true rfl, Nat.le_of_ble_eq_true rfl⟩) hS (fun q _ h => hFc q h) hFc (fun u t H locs ht hvm hw hB hz1 hk1 hS => ?_)
                                        refine ex_1_1 hB (fun f_7340 e_f_7340_0 hB => ?_)
                                        obtain ⟨hP, hD, hK⟩ := Bw.go (ws' := [(oc7 oM x_7261 rM_tape 0 p0 z_7293 z_7294 z_7295 z_7296 z_7297 z_7298 z_7299 x_7262 rM_letters z_7300 iM_hasCourt rM_r rM_fresh rM_told rM_read rM_st rM_undone rM_kept iM_undos iM_images rM_fresher z_7301 iM_scale iM_night rM_heardRow rM_cutRow iM_breaths iM_cutMany iM_allBreaths rM_trial rM_words iM_fewestBreaths iM_orderMany iM_orderSum iM_leastOrder rM_often iM_setMany iM_someOf iM_allOf iM_allWeight iM_enoughWeight iM_worthSum iM_firstRest iM_leastDrawn), (arI rM_tape kM_tape 900 fM_tape), (arI rM_letters kM_letters 8 f_7302), (arI rM_undone kM_undone 1440 fM_undone), (arI rM_kept kM_kept 270 fM_kept), (arI rM_fresher kM_fresher 8 f_7305), (arI rM_fresh kM_fresh 287 f_7337), (arI rM_r kM_r 287 f_7338), (arI rM_told kM_told 90 f_7339), (arI rM_read kM_read 90 f_7304), (arI rM_st kM_st 90 f_7340)]) (tys' := [(kM_tape, .int), (kM_letters, .int), (kM_undone, .int), (kM_kept, .int), (kM_fresher, .int), (kM_fresh, .int), (kM_r, .int), (kM_told, .int), (kM_read, .int), (kM_st, .int)]) hB rfl ht hvm hP hD hK [9, 3] [0, 1, 2, 4, 5, 6, 7, 8, 10] rfl (by decide) (by decide) [0, 1, 3, 4, 5, 6, 7, 9] hk1 hFc rfl rfl rfl
                                        clear hz1 hk1 hvm ht hB
                                        have r_f_7340 : RowOk f_7338 f_7340 := RowOk.copy r_R rq9 e_f_7340_0
                                        have w_f_7340 : WorOk f_7340 := WorOk.congr pk_f_7337.2.2 (fun j _ h2 => cp_all (m := 90) e_f_7340_0 rfl j h2)
                                        have hG := hG.trans (lt_eq (CopyOk.fn e_f_7340_0).symm)
                                        refine lv_aload_n hx hb dX7_court_275 rfl (lv_at hl 1 rfl) ?_
                                        have hMs := ml_of hD [true, false, false, false, false, false, false, true, false, false, false] (wc := [(oc7 oM x_7261 rM_tape 0 p0 z_7293 z_7294 z_7295 z_7296 z_7297 z_7298 z_7299 x_7262 rM_letters z_7300 iM_hasCourt rM_r rM_fresh rM_told rM_read rM_st rM_undone rM_kept iM_undos iM_images rM_fresher z_7301 iM_scale iM_night rM_heardRow rM_cutRow iM_breaths iM_cutMany iM_allBreaths rM_trial rM_words iM_fewestBreaths iM_orderMany iM_orderSum iM_leastOrder rM_often iM_setMany iM_someOf iM_allOf iM_allWeight iM_enoughWeight iM_worthSum iM_firstRest iM_leastDrawn), (arI rM_r kM_r 287 f_7338)]) rfl
                                        have hFc := va_freeM hD hS hA _ hMs
                                        refine va_callv (va_runV (As := []) (rest := []) ⟨hx, hb, hml, hown, hts⟩ (tX7_layScale l dC dI _ oM x_7261 rM_tape 0 p0 z_7293 z_7294 z_7295 z_7296 z_7297 z_7298 z_7299 x_7262 rM_letters z_7300 iM_hasCourt rM_r f_7338 kM_r rM_fresh rM_told rM_read rM_st rM_undone rM_kept iM_undos iM_images rM_fresher z_7301 iM_scale iM_night rM_heardRow rM_cutRow iM_breaths iM_cutMany iM_allBreaths rM_trial rM_words iM_fewestBreaths iM_orderMany iM_orderSum iM_leastOrder rM_often iM_setMany iM_someOf iM_allOf iM_allWeight iM_enoughWeight iM_worthSum iM_firstRest iM_leastDrawn (by first | decide | omega) (by first | exact ⟨by omega, by omega⟩ | omega | decide) b_z_7294 b_z_7300 b_iM_hasCourt b_iM_undos b_iM_images b_iM_scale b_iM_breaths b_iM_cutMany (by assumption) (by first | assumption | omega)) (cwV 0 hts (wd_V wd_502 wd_503 wd_504 wd_5 (wd_c wd_505)) rfl rfl rfl dv_yX7_layScale_0 ⟨Nat.le_of_ble_eq_true rfl, Nat.le_of_ble_eq_true rfl⟩) ⟨Pw.fb, recvX7 hK hP (q0 := 0) rfl, fun U hU hW => Pw.to (hP.ms _ hMs) (hD.ms _ hMs) (hK.ms [false, false, false, false, false, false, true, false, false, false] rfl) hE hS hFc hU hW⟩ rfl rfl hl.1 rfl (lv_room (Nat.le_of_ble_eq_true rfl)) dX7_court_276 ⟨Nat.le_of_ble_eq_true rfl, Nat.le_of_ble_eq_true rfl⟩) hS (fun q _ h => hFc q h) hFc (fun u t H locs ht hvm hw hB hz1 hk1 hS => ?_)
                                        refine ex_1_2 hB (fun x_7341 b_x_7341 e_x_7341_0 hB => ?_)
                                        obtain ⟨hP, hD⟩ := Bw.goN (ws' := [(oc7 oM x_7261 rM_tape 0 p0 z_7293 z_7294 z_7295 z_7296 z_7297 z_7298 z_7299 x_7262 rM_letters z_7300 iM_hasCourt rM_r rM_fresh rM_told rM_read rM_st rM_undone rM_kept iM_undos iM_images rM_fresher z_7301 x_7341 iM_night rM_heardRow rM_cutRow iM_breaths iM_cutMany iM_allBreaths rM_trial rM_words iM_fewestBreaths iM_orderMany iM_orderSum iM_leastOrder rM_often iM_setMany iM_someOf iM_allOf iM_allWeight iM_enoughWeight iM_worthSum iM_firstRest iM_leastDrawn), (arI rM_tape kM_tape 900 fM_tape), (arI rM_letters kM_letters 8 f_7302), (arI rM_undone kM_undone 1440 fM_undone), (arI rM_kept kM_kept 270 fM_kept), (arI rM_fresher kM_fresher 8 f_7305), (arI rM_fresh kM_fresh 287 f_7337), (arI rM_r kM_r 287 f_7338), (arI rM_told kM_told 90 f_7339), (arI rM_read kM_read 90 f_7304), (arI rM_st kM_st 90 f_7340)]) hB rfl ht hP hD _ hMs hk1 hFc rfl
                                        clear hz1 hk1 hvm ht hB hMs
                                        have hG := hG.trans (lt_eq e_x_7341_0.symm)
                                        refine lv_aload_n hx hb dX7_court_279 rfl (lv_at hl 1 rfl) ?_
                                        refine lv_iconst (v := 1) hx hb dX7_court_280 (by decide) ?_
                                        refine va_put (D := (dC, dI)) (ci := 7) (v := .int 1) (ty := .boolean) (C := RX7) (T := TX7) (N := 48) hx hb hts inX7 tyX7 tyX7_ok nmX7 hown hK hP hD hS 0 rfl rfl 14 (by decide) (hts _ wd_385) (fun _ h9 => h9) rfl (by decide +kernel) rfl rfl (Nat.le_of_ble_eq_true rfl) dX7_court_281 (fun H locs hP hD hS => ?_)
                                        obtain ⟨hP, hD⟩ := wl2 (ws' := [(oc7 oM x_7261 rM_tape 0 p0 z_7293 z_7294 z_7295 z_7296 z_7297 z_7298 z_7299 x_7262 rM_letters z_7300 1 rM_r rM_fresh rM_told rM_read rM_st rM_undone rM_kept iM_undos iM_images rM_fresher z_7301 x_7341 iM_night rM_heardRow rM_cutRow iM_breaths iM_cutMany iM_allBreaths rM_trial rM_words iM_fewestBreaths iM_orderMany iM_orderSum iM_leastOrder rM_often iM_setMany iM_someOf iM_allOf iM_allWeight iM_enoughWeight iM_worthSum iM_firstRest iM_leastDrawn), (arI rM_tape kM_tape 900 fM_tape), (arI rM_letters kM_letters 8 f_7302), (arI rM_undone kM_undone 1440 fM_undone), (arI rM_kept kM_kept 270 fM_kept), (arI rM_fresher kM_fresher 8 f_7305), (arI rM_fresh kM_fresh 287 f_7337), (arI rM_r kM_r 287 f_7338), (arI rM_told kM_told 90 f_7339), (arI rM_read kM_read 90 f_7304), (arI rM_st kM_st 90 f_7340)]) hP hD rfl
                                        refine lv_aload_n hx hb dX7_court_284 rfl (lv_at hl 1 rfl) ?_
                                        refine lv_iconst (v := 0) hx hb dX7_court_285 (by decide) ?_
                                        refine va_put (D := (dC, dI)) (ci := 7) (v := .int 0) (ty := .int) (C := RX7) (T := TX7) (N := 48) hx hb hts inX7 tyX7 tyX7_ok nmX7 hown hK hP hD hS 0 rfl rfl 22 (by decide) (hts _ wd_386) (fun _ h9 => h9) rfl (by decide +kernel) rfl rfl (Nat.le_of_ble_eq_true rfl) dX7_court_286 (fun H locs hP hD hS => ?_)
                                        obtain ⟨hP, hD⟩ := wl2 (ws' := [(oc7 oM x_7261 rM_tape 0 p0 z_7293 z_7294 z_7295 z_7296 z_7297 z_7298 z_7299 x_7262 rM_letters z_7300 1 rM_r rM_fresh rM_told rM_read rM_st rM_undone rM_kept 0 iM_images rM_fresher z_7301 x_7341 iM_night rM_heardRow rM_cutRow iM_breaths iM_cutMany iM_allBreaths rM_trial rM_words iM_fewestBreaths iM_orderMany iM_orderSum iM_leastOrder rM_often iM_setMany iM_someOf iM_allOf iM_allWeight iM_enoughWeight iM_worthSum iM_firstRest iM_leastDrawn), (arI rM_tape kM_tape 900 fM_tape), (arI rM_letters kM_letters 8 f_7302), (arI rM_undone kM_undone 1440 fM_undone), (arI rM_kept kM_kept 270 fM_kept), (arI rM_fresher kM_fresher 8 f_7305), (arI rM_fresh kM_fresh 287 f_7337), (arI rM_r kM_r 287 f_7338), (arI rM_told kM_told 90 f_7339), (arI rM_read kM_read 90 f_7304), (arI rM_st kM_st 90 f_7340)]) hP hD rfl
                                        refine lv_aload_n hx hb dX7_court_289 rfl (lv_at hl 1 rfl) ?_
                                        refine lv_iconst (v := 0) hx hb dX7_court_290 (by decide) ?_
                                        refine va_put (D := (dC, dI)) (ci := 7) (v := .int 0) (ty := .int) (C := RX7) (T := TX7) (N := 48) hx hb hts inX7 tyX7 tyX7_ok nmX7 hown hK hP hD hS 0 rfl rfl 23 (by decide) (hts _ wd_387) (fun _ h9 => h9) rfl (by decide +kernel) rfl rfl (Nat.le_of_ble_eq_true rfl) dX7_court_291 (fun H locs hP hD hS => ?_)
                                        obtain ⟨hP, hD⟩ := wl2 (ws' := [(oc7 oM x_7261 rM_tape 0 p0 z_7293 z_7294 z_7295 z_7296 z_7297 z_7298 z_7299 x_7262 rM_letters z_7300 1 rM_r rM_fresh rM_told rM_read rM_st rM_undone rM_kept 0 0 rM_fresher z_7301 x_7341 iM_night rM_heardRow rM_cutRow iM_breaths iM_cutMany iM_allBreaths rM_trial rM_words iM_fewestBreaths iM_orderMany iM_orderSum iM_leastOrder rM_often iM_setMany iM_someOf iM_allOf iM_allWeight iM_enoughWeight iM_worthSum iM_firstRest iM_leastDrawn), (arI rM_tape kM_tape 900 fM_tape), (arI rM_letters kM_letters 8 f_7302), (arI rM_undone kM_undone 1440 fM_undone), (arI rM_kept kM_kept 270 fM_kept), (arI rM_fresher kM_fresher 8 f_7305), (arI rM_fresh kM_fresh 287 f_7337), (arI rM_r kM_r 287 f_7338), (arI rM_told kM_told 90 f_7339), (arI rM_read kM_read 90 f_7304), (arI rM_st kM_st 90 f_7340)]) hP hD rfl
                                        refine lv_aload_n hx hb dX7_court_294 rfl (lv_at hl 1 rfl) ?_
                                        refine va_get (D := (dC, dI)) (ci := 7) (v := .ref rM_r) (C := RX7) (T := TX7) (N := 48) hx hb hts inX7 hown hK hP 0 rfl rfl 15 (by decide) (hts _ wd_155) (fun _ h9 => h9) rfl dX7_court_295 ?_
                                        refine lv_iconst (v := 1) hx hb dX7_court_298 (by decide) ?_
                                        refine va_iald hx hb hK hP 7 6 rfl rfl (by unfold vp_in; decide) dX7_court_299 ?_
                                        refine lv_topi (fun x_7342 ex_7342 => ?_)
                                        have hG := hG.trans (lt_eq ex_7342)
                                        have cx_7342 : (f_7338 1).toInt = x_7342.toInt := congrArg Int32.toInt (show f_7338 1 = x_7342 from ex_7342.symm)
                                        have sx_7342 := r_R.nodes
                                        exact wq_i hx hb hr (cI x_7342) ⟨⟨trivial, trivial⟩, (cI_of x_7342)⟩ (fun t ht hW => ⟨x_7261, 0, p0, z_7293, z_7294, z_7295, z_7296, z_7297, z_7298, z_7299, x_7262, z_7300, 1, 0, 0, z_7301, x_7341, f_7302, f_7338, f_7337, f_7339, f_7304, f_7340, f_7305, (by decide), ⟨by omega, by omega⟩, b_z_7294, b_z_7297, b_z_7300, (by decide), (by decide), (by decide), b_x_7341, (by have q0 := kc_0; have q1 := kc_1; first | assumption | omega), (by have q0 := kc_0; have q1 := kc_1; first | assumption | omega), (by have q0 := kc_0; have q1 := kc_1; first | assumption | omega), (by have q0 := kc_0; have q1 := kc_1; first | assumption | omega), (by have q0 := kc_0; have q1 := kc_1; first | assumption | omega), (HistOk.none (by have q := kc_0; omega)), (HistOk.none (by have q := kc_0; omega)), hi1_n_7306, (by have q0 := kc_0; have q1 := kc_1; first | assumption | omega), (cI_tup hG), Bw.to (hP.sub [0, 1, 2, 7, 6, 8, 9, 10, 3, 4, 5] rfl) (hD.sub [0, 1, 2, 7, 6, 8, 9, 10, 3, 4, 5] (by decide) rfl) (hK.sub [0, 1, 6, 5, 7, 8, 9, 2, 3, 4] rfl) ht hW⟩) hS dX7_court_300 hlocks
                                    · skip
                                      have hG := hG.trans (if_neg c_7327)
                                      have gc_7327 := ti_ne c_7327 rfl kc_0
                                      replace gc_7327 : z_7300.toInt + 1 ≤ 0 := om_f992525b gc_7327 gc_7307
                                      exact ((om_5185113d b_z_7300.1 gc_7327)).elim
                                  · skip
                                    have hG := hG.trans (if_pos c_7326)
                                    have gc_7326 := ti_eq c_7326 rfl kc_0
                                    refine lv_aload_n hx hb dX7_court_181 rfl (lv_at hl 1 rfl) ?_
                                    refine lv_bipush (v := 6) hx hb dX7_court_182 (by decide) ?_
                                    refine lv_aload_n hx hb dX7_court_184 rfl (lv_at hl 1 rfl) ?_
                                    refine va_get (D := (dC, dI)) (ci := 7) (v := .int z_7293) (C := RX7) (T := TX7) (N := 48) hx hb hts inX7 hown hK hP 0 rfl rfl 4 (by decide) (hts _ wd_384) (fun _ h9 => h9) rfl dX7_court_185 ?_
                                    have hMs := ml_of hD [true, false, false, false, false, false, false, false, false, false, false] (wc := [(oc7 oM x_7261 rM_tape 0 p0 z_7293 z_7294 z_7295 z_7296 z_7297 z_7298 z_7299 x_7262 rM_letters z_7300 iM_hasCourt rM_r rM_fresh rM_told rM_read rM_st rM_undone rM_kept iM_undos iM_images rM_fresher z_7301 iM_scale iM_night rM_heardRow rM_cutRow iM_breaths iM_cutMany iM_allBreaths rM_trial rM_words iM_fewestBreaths iM_orderMany iM_orderSum iM_leastOrder rM_often iM_setMany iM_someOf iM_allOf iM_allWeight iM_enoughWeight iM_worthSum iM_firstRest iM_leastDrawn)]) rfl
                                    have hFc := va_freeM hD hS hA _ hMs
                                    refine va_callv (va_runV (As := [.int 6, .int z_7293]) (rest := []) ⟨hx, hb, hml, hown, hts⟩ (tX7_wrong l dC dI _ oM x_7261 rM_tape 0 p0 z_7293 z_7294 z_7295 z_7296 z_7297 z_7298 z_7299 x_7262 rM_letters z_7300 iM_hasCourt rM_r rM_fresh rM_told rM_read rM_st rM_undone rM_kept iM_undos iM_images rM_fresher z_7301 iM_scale iM_night rM_heardRow rM_cutRow iM_breaths iM_cutMany iM_allBreaths rM_trial rM_words iM_fewestBreaths iM_orderMany iM_orderSum iM_leastOrder rM_often iM_setMany iM_someOf iM_allOf iM_allWeight iM_enoughWeight iM_worthSum iM_firstRest iM_leastDrawn 6 z_7293 (by first | decide | omega) (by first | exact ⟨by omega, by omega⟩ | omega | decide) b_z_7294 b_z_7297 b_z_7300 b_iM_hasCourt b_iM_undos b_iM_images b_iM_scale b_iM_breaths b_iM_cutMany hi1_n_7306) (cwV 2 hts (wd_V wd_430 wd_431 wd_432 wd_5 (wd_c wd_433)) rfl rfl rfl dv_yX7_wrong_2 ⟨Nat.le_of_ble_eq_true rfl, Nat.le_of_ble_eq_true rfl⟩) ⟨Pw.fb, recvX7 hK hP (q0 := 0) rfl, fun U hU hW => Pw.to (hP.ms _ hMs) (hD.ms _ hMs) (hK.ms [false, false, false, false, false, false, false, false, false, false] rfl) hE hS hFc hU hW⟩ rfl rfl hl.1 rfl (lv_room (Nat.le_of_ble_eq_true rfl)) dX7_court_188 ⟨Nat.le_of_ble_eq_true rfl, Nat.le_of_ble_eq_true rfl⟩) hS (fun q _ h => hFc q h) hFc (fun u t H locs ht hvm hw hB hz1 hk1 hS => ?_)
                                    refine ex_3_3 hB (fun x_7343 x_7344 x_7345 b_x_7345 e_x_7343_0 e_x_7343_1 hB => ?_)
                                    obtain ⟨hP, hD⟩ := Bw.goN (ws' := [(oc7 oM x_7261 rM_tape 0 p0 z_7293 z_7294 z_7295 z_7296 z_7297 x_7343 x_7344 x_7262 rM_letters x_7345 iM_hasCourt rM_r rM_fresh rM_told rM_read rM_st rM_undone rM_kept iM_undos iM_images rM_fresher z_7301 iM_scale iM_night rM_heardRow rM_cutRow iM_breaths iM_cutMany iM_allBreaths rM_trial rM_words iM_fewestBreaths iM_orderMany iM_orderSum iM_leastOrder rM_often iM_setMany iM_someOf iM_allOf iM_allWeight iM_enoughWeight iM_worthSum iM_firstRest iM_leastDrawn), (arI rM_tape kM_tape 900 fM_tape), (arI rM_letters kM_letters 8 f_7302), (arI rM_r kM_r 287 fM_r), (arI rM_fresh kM_fresh 287 f_7303), (arI rM_told kM_told 90 fM_told), (arI rM_read kM_read 90 f_7304), (arI rM_st kM_st 90 fM_st), (arI rM_undone kM_undone 1440 fM_undone), (arI rM_kept kM_kept 270 fM_kept), (arI rM_fresher kM_fresher 8 f_7305)]) hB rfl ht hP hD _ hMs hk1 hFc rfl
                                    clear hz1 hk1 hvm ht hB hMs
                                    have hG := hG.trans (un3_eq e_x_7343_1)
                                    refine lv_aload_n hx hb dX7_court_191 rfl (lv_at hl 1 rfl) ?_
                                    refine va_get (D := (dC, dI)) (ci := 7) (v := .int x_7345) (C := RX7) (T := TX7) (N := 48) hx hb hts inX7 hown hK hP 0 rfl rfl 13 (by decide) (hts _ wd_380) (fun _ h9 => h9) rfl dX7_court_192 ?_
                                    refine lv_if_eq (tgt := 204) hx hb dX7_court_195 (by decide) (fun c_7346 => ?_) (fun c_7346 => ?_)
                                    · skip
                                      have hG := hG.trans (if_pos c_7346)
                                      have gc_7346 := ti_eq c_7346 rfl kc_0
                                      exact ((om_b1155cdc e_x_7343_0 gc_7346)).elim
                                    · skip
                                      have hG := hG.trans (if_neg c_7346)
                                      have gc_7346 := ti_ne c_7346 rfl kc_0
                                      replace gc_7346 : (-1) * x_7345.toInt + 1 ≤ 0 := om_e3003f79 gc_7346 b_x_7345.1
                                      refine lv_aload_n hx hb dX7_court_198 rfl (lv_at hl 1 rfl) ?_
                                      refine lv_iconst (v := 4) hx hb dX7_court_199 (by decide) ?_
                                      have hMs := ml_of hD [true, false, false, false, false, false, false, false, false, false, false] (wc := [(oc7 oM x_7261 rM_tape 0 p0 z_7293 z_7294 z_7295 z_7296 z_7297 x_7343 x_7344 x_7262 rM_letters x_7345 iM_hasCourt rM_r rM_fresh rM_told rM_read rM_st rM_undone rM_kept iM_undos iM_images rM_fresher z_7301 iM_scale iM_night rM_heardRow rM_cutRow iM_breaths iM_cutMany iM_allBreaths rM_trial rM_words iM_fewestBreaths iM_orderMany iM_orderSum iM_leastOrder rM_often iM_setMany iM_someOf iM_allOf iM_allWeight iM_enoughWeight iM_worthSum iM_firstRest iM_leastDrawn)]) rfl
                                      have hFc := va_freeM hD hS hA _ hMs
                                      refine va_calli (va_runV (As := [.int 4]) (rest := []) ⟨hx, hb, hml, hown, hts⟩ (tX7_no l dC dI _ oM x_7261 rM_tape 0 p0 z_7293 z_7294 z_7295 z_7296 z_7297 x_7343 x_7344 x_7262 rM_letters x_7345 iM_hasCourt rM_r rM_fresh rM_told rM_read rM_st rM_undone rM_kept iM_undos iM_images rM_fresher z_7301 iM_scale iM_night rM_heardRow rM_cutRow iM_breaths iM_cutMany iM_allBreaths rM_trial rM_words iM_fewestBreaths iM_orderMany iM_orderSum iM_leastOrder rM_often iM_setMany iM_someOf iM_allOf iM_allWeight iM_enoughWeight iM_worthSum iM_firstRest iM_leastDrawn 4 (by first | decide | omega) (by first | exact ⟨by omega, by omega⟩ | omega | decide) b_z_7294 b_x_7345 b_iM_hasCourt b_iM_undos b_iM_images b_iM_scale b_iM_breaths b_iM_cutMany) (cwV 1 hts (wd_V wd_396 wd_397 wd_398 wd_5 (wd_c wd_399)) rfl rfl rfl dv_yX7_no_1 ⟨Nat.le_of_ble_eq_true rfl, Nat.le_of_ble_eq_true rfl⟩) ⟨Pw.fb, recvX7 hK hP (q0 := 0) rfl, fun U hU hW => Pw.to (hP.ms _ hMs) (hD.ms _ hMs) (hK.ms [false, false, false, false, false, false, false, false, false, false] rfl) hE hS hFc hU hW⟩ rfl rfl hl.1 rfl (lv_room (Nat.le_of_ble_eq_true rfl)) dX7_court_200 ⟨Nat.le_of_ble_eq_true rfl, Nat.le_of_ble_eq_true rfl⟩) hS (fun q _ h => hFc q h) hFc (fun r u t H locs ht hvm hw hB hz1 hk1 hS => ?_)
                                      have hru9 := hw.2
                                      have hw := hw.1
                                      refine ex_1_1 hB (fun x_7347 e_x_7347_0 hB => ?_)
                                      obtain ⟨hP, hD⟩ := Bw.goN (ws' := [(oc7 oM x_7261 rM_tape 0 p0 z_7293 z_7294 z_7295 z_7296 z_7297 x_7343 x_7344 x_7347 rM_letters x_7345 iM_hasCourt rM_r rM_fresh rM_told rM_read rM_st rM_undone rM_kept iM_undos iM_images rM_fresher z_7301 iM_scale iM_night rM_heardRow rM_cutRow iM_breaths iM_cutMany iM_allBreaths rM_trial rM_words iM_fewestBreaths iM_orderMany iM_orderSum iM_leastOrder rM_often iM_setMany iM_someOf iM_allOf iM_allWeight iM_enoughWeight iM_worthSum iM_firstRest iM_leastDrawn), (arI rM_tape kM_tape 900 fM_tape), (arI rM_letters kM_letters 8 f_7302), (arI rM_r kM_r 287 fM_r), (arI rM_fresh kM_fresh 287 f_7303), (arI rM_told kM_told 90 fM_told), (arI rM_read kM_read 90 f_7304), (arI rM_st kM_st 90 fM_st), (arI rM_undone kM_undone 1440 fM_undone), (arI rM_kept kM_kept 270 fM_kept), (arI rM_fresher kM_fresher 8 f_7305)]) hB rfl ht hP hD _ hMs hk1 hFc rfl
                                      clear hz1 hk1 hvm ht hB hMs
                                      rw [← hru9] at e_x_7347_0
                                      obtain ⟨x_7348, rfl⟩ : ∃ z, z = r := ⟨_, rfl⟩
                                      have hG := hG.trans (un2_eq e_x_7347_0)
                                      exact wq_i hx hb hr (cI x_7348) ⟨⟨trivial, trivial⟩, (cI_of x_7348)⟩ (fun t ht hW => ⟨x_7261, 0, p0, z_7293, z_7294, z_7295, z_7296, z_7297, x_7343, x_7344, x_7347, x_7345, iM_hasCourt, iM_undos, iM_images, z_7301, iM_scale, f_7302, fM_r, f_7303, fM_told, f_7304, fM_st, f_7305, (by decide), ⟨by omega, by omega⟩, b_z_7294, b_z_7297, b_x_7345, ⟨b_iM_hasCourt.1, b_iM_hasCourt.2⟩, ⟨b_iM_undos.1, b_iM_undos.2⟩, ⟨b_iM_images.1, b_iM_images.2⟩, ⟨b_iM_scale.1, b_iM_scale.2⟩, (by have q0 := kc_0; have q1 := kc_1; first | assumption | omega), (by have q0 := kc_0; have q1 := kc_1; first | assumption | omega), (by have q0 := kc_0; have q1 := kc_1; first | assumption | omega), (by have q0 := kc_0; have q1 := kc_1; first | assumption | omega), (by have q0 := kc_0; have q1 := kc_1; first | assumption | omega), (by have q0 := kc_0; have q1 := kc_1; first | assumption | omega), (by have q0 := kc_0; have q1 := kc_1; first | assumption | omega), hi1_n_7306, (by have q0 := kc_0; have q1 := kc_1; first | assumption | omega), (cI_tup hG), Bw.to hP hD hK ht hW⟩) hS dX7_court_203 hlocks
                            · skip
                              have hG := hG.trans (if_neg c_7315)
                              have gc_7315 := ti_ne c_7315 rfl kc_0
                              clear gc_7315
                              refine lv_aload_n hx hb dX7_court_147 rfl (lv_at hl 1 rfl) ?_
                              refine lv_iconst (v := 1) hx hb dX7_court_148 (by decide) ?_
                              refine lv_aload_n hx hb dX7_court_149 rfl (lv_at hl 1 rfl) ?_
                              refine va_get (D := (dC, dI)) (ci := 7) (v := .int z_7293) (C := RX7) (T := TX7) (N := 48) hx hb hts inX7 hown hK hP 0 rfl rfl 4 (by decide) (hts _ wd_384) (fun _ h9 => h9) rfl dX7_court_150 ?_
                              have hMs := ml_of hD [true, false, false, false, false, false, false, false, false, false, false] (wc := [(oc7 oM x_7261 rM_tape 0 p0 z_7293 z_7294 z_7295 z_7296 z_7297 z_7298 z_7299 x_7262 rM_letters z_7300 iM_hasCourt rM_r rM_fresh rM_told rM_read rM_st rM_undone rM_kept iM_undos iM_images rM_fresher z_7301 iM_scale iM_night rM_heardRow rM_cutRow iM_breaths iM_cutMany iM_allBreaths rM_trial rM_words iM_fewestBreaths iM_orderMany iM_orderSum iM_leastOrder rM_often iM_setMany iM_someOf iM_allOf iM_allWeight iM_enoughWeight iM_worthSum iM_firstRest iM_leastDrawn)]) rfl
                              have hFc := va_freeM hD hS hA _ hMs
                              refine va_callv (va_runV (As := [.int 1, .int z_7293]) (rest := []) ⟨hx, hb, hml, hown, hts⟩ (tX7_wrong l dC dI _ oM x_7261 rM_tape 0 p0 z_7293 z_7294 z_7295 z_7296 z_7297 z_7298 z_7299 x_7262 rM_letters z_7300 iM_hasCourt rM_r rM_fresh rM_told rM_read rM_st rM_undone rM_kept iM_undos iM_images rM_fresher z_7301 iM_scale iM_night rM_heardRow rM_cutRow iM_breaths iM_cutMany iM_allBreaths rM_trial rM_words iM_fewestBreaths iM_orderMany iM_orderSum iM_leastOrder rM_often iM_setMany iM_someOf iM_allOf iM_allWeight iM_enoughWeight iM_worthSum iM_firstRest iM_leastDrawn 1 z_7293 (by first | decide | omega) (by first | exact ⟨by omega, by omega⟩ | omega | decide) b_z_7294 b_z_7297 b_z_7300 b_iM_hasCourt b_iM_undos b_iM_images b_iM_scale b_iM_breaths b_iM_cutMany hi1_n_7306) (cwV 2 hts (wd_V wd_430 wd_431 wd_432 wd_5 (wd_c wd_433)) rfl rfl rfl dv_yX7_wrong_2 ⟨Nat.le_of_ble_eq_true rfl, Nat.le_of_ble_eq_true rfl⟩) ⟨Pw.fb, recvX7 hK hP (q0 := 0) rfl, fun U hU hW => Pw.to (hP.ms _ hMs) (hD.ms _ hMs) (hK.ms [false, false, false, false, false, false, false, false, false, false] rfl) hE hS hFc hU hW⟩ rfl rfl hl.1 rfl (lv_room (Nat.le_of_ble_eq_true rfl)) dX7_court_153 ⟨Nat.le_of_ble_eq_true rfl, Nat.le_of_ble_eq_true rfl⟩) hS (fun q _ h => hFc q h) hFc (fun u t H locs ht hvm hw hB hz1 hk1 hS => ?_)
                              refine ex_3_3 hB (fun x_7349 x_7350 x_7351 b_x_7351 e_x_7349_0 e_x_7349_1 hB => ?_)
                              obtain ⟨hP, hD⟩ := Bw.goN (ws' := [(oc7 oM x_7261 rM_tape 0 p0 z_7293 z_7294 z_7295 z_7296 z_7297 x_7349 x_7350 x_7262 rM_letters x_7351 iM_hasCourt rM_r rM_fresh rM_told rM_read rM_st rM_undone rM_kept iM_undos iM_images rM_fresher z_7301 iM_scale iM_night rM_heardRow rM_cutRow iM_breaths iM_cutMany iM_allBreaths rM_trial rM_words iM_fewestBreaths iM_orderMany iM_orderSum iM_leastOrder rM_often iM_setMany iM_someOf iM_allOf iM_allWeight iM_enoughWeight iM_worthSum iM_firstRest iM_leastDrawn), (arI rM_tape kM_tape 900 fM_tape), (arI rM_letters kM_letters 8 f_7302), (arI rM_r kM_r 287 fM_r), (arI rM_fresh kM_fresh 287 f_7303), (arI rM_told kM_told 90 fM_told), (arI rM_read kM_read 90 f_7304), (arI rM_st kM_st 90 fM_st), (arI rM_undone kM_undone 1440 fM_undone), (arI rM_kept kM_kept 270 fM_kept), (arI rM_fresher kM_fresher 8 f_7305)]) hB rfl ht hP hD _ hMs hk1 hFc rfl
                              clear hz1 hk1 hvm ht hB hMs
                              have hG := hG.trans (un3_eq e_x_7349_1)
                              refine lv_aload_n hx hb dX7_court_156 rfl (lv_at hl 1 rfl) ?_
                              refine va_get (D := (dC, dI)) (ci := 7) (v := .int x_7351) (C := RX7) (T := TX7) (N := 48) hx hb hts inX7 hown hK hP 0 rfl rfl 13 (by decide) (hts _ wd_380) (fun _ h9 => h9) rfl dX7_court_157 ?_
                              refine lv_if_ne (tgt := 191) hx hb dX7_court_160 (by decide) (fun c_7352 => ?_) (fun c_7352 => ?_)
                              · skip
                                have hG := hG.trans (if_neg c_7352)
                                have gc_7352 := ti_ne c_7352 rfl kc_0
                                replace gc_7352 : (-1) * x_7351.toInt + 1 ≤ 0 := om_e3003f79 gc_7352 b_x_7351.1
                                refine lv_aload_n hx hb dX7_court_191 rfl (lv_at hl 1 rfl) ?_
                                refine va_get (D := (dC, dI)) (ci := 7) (v := .int x_7351) (C := RX7) (T := TX7) (N := 48) hx hb hts inX7 hown hK hP 0 rfl rfl 13 (by decide) (hts _ wd_380) (fun _ h9 => h9) rfl dX7_court_192 ?_
                                refine lv_if_eq (tgt := 204) hx hb dX7_court_195 (by decide) (fun c_7353 => ?_) (fun c_7353 => ?_)
                                · skip
                                  have hG := hG.trans (if_pos c_7353)
                                  have gc_7353 := ti_eq c_7353 rfl kc_0
                                  exact ((om_b1155cdc e_x_7349_0 gc_7353)).elim
                                · skip
                                  have hG := hG.trans (if_neg c_7353)
                                  have gc_7353 := ti_ne c_7353 rfl kc_0
                                  replace gc_7353 : (-1) * x_7351.toInt + 1 ≤ 0 := om_e3003f79 gc_7353 b_x_7351.1
                                  refine lv_aload_n hx hb dX7_court_198 rfl (lv_at hl 1 rfl) ?_
                                  refine lv_iconst (v := 4) hx hb dX7_court_199 (by decide) ?_
                                  have hMs := ml_of hD [true, false, false, false, false, false, false, false, false, false, false] (wc := [(oc7 oM x_7261 rM_tape 0 p0 z_7293 z_7294 z_7295 z_7296 z_7297 x_7349 x_7350 x_7262 rM_letters x_7351 iM_hasCourt rM_r rM_fresh rM_told rM_read rM_st rM_undone rM_kept iM_undos iM_images rM_fresher z_7301 iM_scale iM_night rM_heardRow rM_cutRow iM_breaths iM_cutMany iM_allBreaths rM_trial rM_words iM_fewestBreaths iM_orderMany iM_orderSum iM_leastOrder rM_often iM_setMany iM_someOf iM_allOf iM_allWeight iM_enoughWeight iM_worthSum iM_firstRest iM_leastDrawn)]) rfl
                                  have hFc := va_freeM hD hS hA _ hMs
                                  refine va_calli (va_runV (As := [.int 4]) (rest := []) ⟨hx, hb, hml, hown, hts⟩ (tX7_no l dC dI _ oM x_7261 rM_tape 0 p0 z_7293 z_7294 z_7295 z_7296 z_7297 x_7349 x_7350 x_7262 rM_letters x_7351 iM_hasCourt rM_r rM_fresh rM_told rM_read rM_st rM_undone rM_kept iM_undos iM_images rM_fresher z_7301 iM_scale iM_night rM_heardRow rM_cutRow iM_breaths iM_cutMany iM_allBreaths rM_trial rM_words iM_fewestBreaths iM_orderMany iM_orderSum iM_leastOrder rM_often iM_setMany iM_someOf iM_allOf iM_allWeight iM_enoughWeight iM_worthSum iM_firstRest iM_leastDrawn 4 (by first | decide | omega) (by first | exact ⟨by omega, by omega⟩ | omega | decide) b_z_7294 b_x_7351 b_iM_hasCourt b_iM_undos b_iM_images b_iM_scale b_iM_breaths b_iM_cutMany) (cwV 1 hts (wd_V wd_396 wd_397 wd_398 wd_5 (wd_c wd_399)) rfl rfl rfl dv_yX7_no_1 ⟨Nat.le_of_ble_eq_true rfl, Nat.le_of_ble_eq_true rfl⟩) ⟨Pw.fb, recvX7 hK hP (q0 := 0) rfl, fun U hU hW => Pw.to (hP.ms _ hMs) (hD.ms _ hMs) (hK.ms [false, false, false, false, false, false, false, false, false, false] rfl) hE hS hFc hU hW⟩ rfl rfl hl.1 rfl (lv_room (Nat.le_of_ble_eq_true rfl)) dX7_court_200 ⟨Nat.le_of_ble_eq_true rfl, Nat.le_of_ble_eq_true rfl⟩) hS (fun q _ h => hFc q h) hFc (fun r u t H locs ht hvm hw hB hz1 hk1 hS => ?_)
                                  have hru9 := hw.2
                                  have hw := hw.1
                                  refine ex_1_1 hB (fun x_7354 e_x_7354_0 hB => ?_)
                                  obtain ⟨hP, hD⟩ := Bw.goN (ws' := [(oc7 oM x_7261 rM_tape 0 p0 z_7293 z_7294 z_7295 z_7296 z_7297 x_7349 x_7350 x_7354 rM_letters x_7351 iM_hasCourt rM_r rM_fresh rM_told rM_read rM_st rM_undone rM_kept iM_undos iM_images rM_fresher z_7301 iM_scale iM_night rM_heardRow rM_cutRow iM_breaths iM_cutMany iM_allBreaths rM_trial rM_words iM_fewestBreaths iM_orderMany iM_orderSum iM_leastOrder rM_often iM_setMany iM_someOf iM_allOf iM_allWeight iM_enoughWeight iM_worthSum iM_firstRest iM_leastDrawn), (arI rM_tape kM_tape 900 fM_tape), (arI rM_letters kM_letters 8 f_7302), (arI rM_r kM_r 287 fM_r), (arI rM_fresh kM_fresh 287 f_7303), (arI rM_told kM_told 90 fM_told), (arI rM_read kM_read 90 f_7304), (arI rM_st kM_st 90 fM_st), (arI rM_undone kM_undone 1440 fM_undone), (arI rM_kept kM_kept 270 fM_kept), (arI rM_fresher kM_fresher 8 f_7305)]) hB rfl ht hP hD _ hMs hk1 hFc rfl
                                  clear hz1 hk1 hvm ht hB hMs
                                  rw [← hru9] at e_x_7354_0
                                  obtain ⟨x_7355, rfl⟩ : ∃ z, z = r := ⟨_, rfl⟩
                                  have hG := hG.trans (un2_eq e_x_7354_0)
                                  exact wq_i hx hb hr (cI x_7355) ⟨⟨trivial, trivial⟩, (cI_of x_7355)⟩ (fun t ht hW => ⟨x_7261, 0, p0, z_7293, z_7294, z_7295, z_7296, z_7297, x_7349, x_7350, x_7354, x_7351, iM_hasCourt, iM_undos, iM_images, z_7301, iM_scale, f_7302, fM_r, f_7303, fM_told, f_7304, fM_st, f_7305, (by decide), ⟨by omega, by omega⟩, b_z_7294, b_z_7297, b_x_7351, ⟨b_iM_hasCourt.1, b_iM_hasCourt.2⟩, ⟨b_iM_undos.1, b_iM_undos.2⟩, ⟨b_iM_images.1, b_iM_images.2⟩, ⟨b_iM_scale.1, b_iM_scale.2⟩, (by have q0 := kc_0; have q1 := kc_1; first | assumption | omega), (by have q0 := kc_0; have q1 := kc_1; first | assumption | omega), (by have q0 := kc_0; have q1 := kc_1; first | assumption | omega), (by have q0 := kc_0; have q1 := kc_1; first | assumption | omega), (by have q0 := kc_0; have q1 := kc_1; first | assumption | omega), (by have q0 := kc_0; have q1 := kc_1; first | assumption | omega), (by have q0 := kc_0; have q1 := kc_1; first | assumption | omega), hi1_n_7306, (by have q0 := kc_0; have q1 := kc_1; first | assumption | omega), (cI_tup hG), Bw.to hP hD hK ht hW⟩) hS dX7_court_203 hlocks
                              · skip
                                have hG := hG.trans (if_pos c_7352)
                                have gc_7352 := ti_eq c_7352 rfl kc_0
                                exact ((om_b1155cdc e_x_7349_0 gc_7352)).elim
                        · skip
                          have hG := hG.trans (if_pos c_7313)
                          have gc_7313 := ti_eq c_7313 rfl kc_59
                          refine lv_aload_n hx hb dX7_court_122 rfl (lv_at hl 1 rfl) ?_
                          have hMs := ml_of hD [true, true, true, false, false, false, false, false, false, false, false] (wc := [(oc7 oM x_7261 rM_tape 0 p0 z_7293 z_7294 z_7295 z_7296 z_7297 z_7298 z_7299 x_7262 rM_letters z_7300 iM_hasCourt rM_r rM_fresh rM_told rM_read rM_st rM_undone rM_kept iM_undos iM_images rM_fresher z_7301 iM_scale iM_night rM_heardRow rM_cutRow iM_breaths iM_cutMany iM_allBreaths rM_trial rM_words iM_fewestBreaths iM_orderMany iM_orderSum iM_leastOrder rM_often iM_setMany iM_someOf iM_allOf iM_allWeight iM_enoughWeight iM_worthSum iM_firstRest iM_leastDrawn), (arI rM_tape kM_tape 900 fM_tape), (arI rM_letters kM_letters 8 f_7302)]) rfl
                          have hFc := va_freeM hD hS hA _ hMs
                          refine va_callv (va_runV (As := []) (rest := []) ⟨hx, hb, hml, hown, hts⟩ (tX7_next l dC dI _ oM x_7261 rM_tape fM_tape kM_tape 0 p0 z_7293 z_7294 z_7295 z_7296 z_7297 z_7298 z_7299 x_7262 rM_letters f_7302 kM_letters z_7300 iM_hasCourt rM_r rM_fresh rM_told rM_read rM_st rM_undone rM_kept iM_undos iM_images rM_fresher z_7301 iM_scale iM_night rM_heardRow rM_cutRow iM_breaths iM_cutMany iM_allBreaths rM_trial rM_words iM_fewestBreaths iM_orderMany iM_orderSum iM_leastOrder rM_often iM_setMany iM_someOf iM_allOf iM_allWeight iM_enoughWeight iM_worthSum iM_firstRest iM_leastDrawn (by first | decide | omega) (by first | exact ⟨by omega, by omega⟩ | omega | decide) b_z_7294 b_z_7297 b_z_7300 b_iM_hasCourt b_iM_undos b_iM_images b_iM_scale b_iM_breaths b_iM_cutMany hi1_n_7306) (cwV 0 hts (wd_V wd_400 wd_401 wd_402 wd_5 (wd_c wd_403)) rfl rfl rfl dv_yX7_next_0 ⟨Nat.le_of_ble_eq_true rfl, Nat.le_of_ble_eq_true rfl⟩) ⟨Pw.fb, recvX7 hK hP (q0 := 0) rfl, fun U hU hW => Pw.to (hP.ms _ hMs) (hD.ms _ hMs) (hK.ms [true, true, false, false, false, false, false, false, false, false] rfl) hE hS hFc hU hW⟩ rfl rfl hl.1 rfl (lv_room (Nat.le_of_ble_eq_true rfl)) dX7_court_123 ⟨Nat.le_of_ble_eq_true rfl, Nat.le_of_ble_eq_true rfl⟩) hS (fun q _ h => hFc q h) hFc (fun u t H locs ht hvm hw hB hz1 hk1 hS => ?_)
                          refine ex_6_6 hB (fun x_7356 x_7357 x_7358 x_7359 x_7360 f_7361 b_x_7357 b_x_7360 e_x_7356_0 e_x_7356_1 e_x_7356_2 e_x_7356_3 hB => ?_)
                          obtain ⟨hP, hD⟩ := Bw.goN (ws' := [(oc7 oM x_7261 rM_tape 0 p0 x_7356 x_7357 x_7358 x_7359 x_7360 z_7298 z_7299 x_7262 rM_letters z_7300 iM_hasCourt rM_r rM_fresh rM_told rM_read rM_st rM_undone rM_kept iM_undos iM_images rM_fresher z_7301 iM_scale iM_night rM_heardRow rM_cutRow iM_breaths iM_cutMany iM_allBreaths rM_trial rM_words iM_fewestBreaths iM_orderMany iM_orderSum iM_leastOrder rM_often iM_setMany iM_someOf iM_allOf iM_allWeight iM_enoughWeight iM_worthSum iM_firstRest iM_leastDrawn), (arI rM_tape kM_tape 900 fM_tape), (arI rM_letters kM_letters 8 f_7361), (arI rM_r kM_r 287 fM_r), (arI rM_fresh kM_fresh 287 f_7303), (arI rM_told kM_told 90 fM_told), (arI rM_read kM_read 90 f_7304), (arI rM_st kM_st 90 fM_st), (arI rM_undone kM_undone 1440 fM_undone), (arI rM_kept kM_kept 270 fM_kept), (arI rM_fresher kM_fresher 8 f_7305)]) hB rfl ht hP hD _ hMs hk1 hFc rfl
                          clear hz1 hk1 hvm ht hB hMs
                          have hG := hG.trans (un6_eq e_x_7356_3)
                          clear hi1_n_7306
                          refine lv_aload_n hx hb dX7_court_126 rfl (lv_at hl 1 rfl) ?_
                          have hMs := ml_of hD [true, true, true, false, true, false, true, false, false, false, true] (wc := [(oc7 oM x_7261 rM_tape 0 p0 x_7356 x_7357 x_7358 x_7359 x_7360 z_7298 z_7299 x_7262 rM_letters z_7300 iM_hasCourt rM_r rM_fresh rM_told rM_read rM_st rM_undone rM_kept iM_undos iM_images rM_fresher z_7301 iM_scale iM_night rM_heardRow rM_cutRow iM_breaths iM_cutMany iM_allBreaths rM_trial rM_words iM_fewestBreaths iM_orderMany iM_orderSum iM_leastOrder rM_often iM_setMany iM_someOf iM_allOf iM_allWeight iM_enoughWeight iM_worthSum iM_firstRest iM_leastDrawn), (arI rM_tape kM_tape 900 fM_tape), (arI rM_letters kM_letters 8 f_7361), (arI rM_fresh kM_fresh 287 f_7303), (arI rM_read kM_read 90 f_7304), (arI rM_fresher kM_fresher 8 f_7305)]) rfl
                          have hFc := va_freeM hD hS hA _ hMs
                          refine va_callv (va_runV (As := []) (rest := []) ⟨hx, hb, hml, hown, hts⟩ (tX7_readLine l dC dI _ oM x_7261 rM_tape fM_tape kM_tape 0 p0 x_7356 x_7357 x_7358 x_7359 x_7360 z_7298 z_7299 x_7262 rM_letters f_7361 kM_letters z_7300 iM_hasCourt rM_r rM_fresh f_7303 kM_fresh rM_told rM_read f_7304 kM_read rM_st rM_undone rM_kept iM_undos iM_images rM_fresher f_7305 kM_fresher z_7301 iM_scale iM_night rM_heardRow rM_cutRow iM_breaths iM_cutMany iM_allBreaths rM_trial rM_words iM_fewestBreaths iM_orderMany iM_orderSum iM_leastOrder rM_often iM_setMany iM_someOf iM_allOf iM_allWeight iM_enoughWeight iM_worthSum iM_firstRest iM_leastDrawn (by first | decide | omega) (by first | exact ⟨by omega, by omega⟩ | omega | decide) b_x_7357 b_x_7360 b_z_7300 b_iM_hasCourt b_iM_undos b_iM_images b_iM_scale b_iM_breaths b_iM_cutMany e_x_7356_1 hi0_n_7306) (cwV 0 hts (wd_V wd_416 wd_417 wd_418 wd_5 (wd_c wd_419)) rfl rfl rfl dv_yX7_readLine_0 ⟨Nat.le_of_ble_eq_true rfl, Nat.le_of_ble_eq_true rfl⟩) ⟨Pw.fb, recvX7 hK hP (q0 := 0) rfl, fun U hU hW => Pw.to (hP.ms _ hMs) (hD.ms _ hMs) (hK.ms [true, true, false, true, false, true, false, false, false, true] rfl) hE hS hFc hU hW⟩ rfl rfl hl.1 rfl (lv_room (Nat.le_of_ble_eq_true rfl)) dX7_court_127 ⟨Nat.le_of_ble_eq_true rfl, Nat.le_of_ble_eq_true rfl⟩) hS (fun q _ h => hFc q h) hFc (fun u t H locs ht hvm hw hB hz1 hk1 hS => ?_)
                          refine ex_13_9 hB (fun x_7362 x_7363 x_7364 x_7365 x_7366 x_7367 x_7368 x_7369 x_7370 f_7371 f_7372 f_7373 f_7374 b_x_7363 b_x_7366 b_x_7369 e_x_7362_0 e_x_7362_1 e_x_7362_2 e_x_7362_3 e_x_7362_4 e_x_7362_5 hB => ?_)
                          obtain ⟨hP, hD⟩ := Bw.goN (ws' := [(oc7 oM x_7261 rM_tape 0 p0 x_7362 x_7363 x_7364 x_7365 x_7366 x_7367 x_7368 x_7262 rM_letters x_7369 iM_hasCourt rM_r rM_fresh rM_told rM_read rM_st rM_undone rM_kept iM_undos iM_images rM_fresher x_7370 iM_scale iM_night rM_heardRow rM_cutRow iM_breaths iM_cutMany iM_allBreaths rM_trial rM_words iM_fewestBreaths iM_orderMany iM_orderSum iM_leastOrder rM_often iM_setMany iM_someOf iM_allOf iM_allWeight iM_enoughWeight iM_worthSum iM_firstRest iM_leastDrawn), (arI rM_tape kM_tape 900 fM_tape), (arI rM_letters kM_letters 8 f_7371), (arI rM_r kM_r 287 fM_r), (arI rM_fresh kM_fresh 287 f_7372), (arI rM_told kM_told 90 fM_told), (arI rM_read kM_read 90 f_7373), (arI rM_st kM_st 90 fM_st), (arI rM_undone kM_undone 1440 fM_undone), (arI rM_kept kM_kept 270 fM_kept), (arI rM_fresher kM_fresher 8 f_7374)]) hB rfl ht hP hD _ hMs hk1 hFc rfl
                          clear hz1 hk1 hvm ht hB hMs
                          have pl_f_7372 := e_x_7362_4.lins
                          have hG := hG.trans (un13_eq e_x_7362_5)
                          clear e_x_7356_1
                          clear e_x_7356_2
                          refine lv_goto (tgt := 106) hx hb dX7_court_130 (by decide) ?_
                          exact ih_n_7306 x_7362 x_7363 x_7364 x_7365 x_7366 x_7367 x_7368 x_7369 x_7370 f_7371 f_7372 f_7373 f_7374 _ _ _ b_x_7363 b_x_7366 b_x_7369 (by assumption) e_x_7362_1 (crtM_step hm_n_7306 (by omega) (by omega) (by omega) (by omega) (fun h9 => by have q0 := kc_0; have q1 := kc_1; have q9 := e_x_7362_3 (by omega); omega)) hG hP hD hS (lv_sub hl [0, 1, 2] rfl)
                  exact key_n_7306 ((crtM x_7287.toInt x_7282.toInt x_7281.toInt) + 1) x_7280 x_7281 x_7282 x_7283 x_7284 x_7285 x_7286 x_7287 x_7288 f_7289 f_7290 f_7291 f_7292 _ _ _ b_x_7281 b_x_7284 b_x_7287 (by assumption) e_x_7280_1 (Nat.lt_add_one _) hG hP hD hS hl
                · skip
                  have hG := hG.trans (if_neg c_7272)
                  have gc_7272 := ti_nle c_7272 kc_90 rfl
                  refine lv_aload_n hx hb dX7_court_67 rfl (lv_at hl 1 rfl) ?_
                  refine va_get (D := (dC, dI)) (ci := 7) (v := .ref rM_read) (C := RX7) (T := TX7) (N := 48) hx hb hts inX7 hown hK hP 0 rfl rfl 18 (by decide) (hts _ wd_158) (fun _ h9 => h9) rfl dX7_court_68 ?_
                  refine lv_iload_n hx hb dX7_court_71 rfl (lv_at hl 0 rfl) ?_
                  refine lv_iconst (v := 0) hx hb dX7_court_72 (by decide) ?_
                  refine va_iast hx hb hK hP hD hS 6 5 rfl rfl (ti_in rfl hi0_n_7271.1 (om_4ad7ab72 gc_7272)) dX7_court_73 (fun H locs hP hD hS => ?_)
                  obtain ⟨f_7375, ef_7375⟩ : ∃ g : Nat → Int32, g = upd f_7270 z_7269.toNatClampNeg (0 : Int32) := ⟨_, rfl⟩
                  rw [← ef_7375] at hP hD
                  have hG := hG.trans (lt_eq ef_7375)
                  obtain ⟨hP, hD⟩ := wl2 (ws' := [(oc7 oM x_7261 rM_tape 0 iM_size iM_at iM_end iM_token iM_whole iM_nameSize 0 iM_place x_7262 rM_letters 0 iM_hasCourt rM_r rM_fresh rM_told rM_read rM_st rM_undone rM_kept iM_undos iM_images rM_fresher iM_fresherSize iM_scale iM_night rM_heardRow rM_cutRow iM_breaths iM_cutMany iM_allBreaths rM_trial rM_words iM_fewestBreaths iM_orderMany iM_orderSum iM_leastOrder rM_often iM_setMany iM_someOf iM_allOf iM_allWeight iM_enoughWeight iM_worthSum iM_firstRest iM_leastDrawn), (arI rM_tape kM_tape 900 fM_tape), (arI rM_letters kM_letters 8 fM_letters), (arI rM_r kM_r 287 fM_r), (arI rM_fresh kM_fresh 287 f_7266), (arI rM_told kM_told 90 fM_told), (arI rM_read kM_read 90 f_7375), (arI rM_st kM_st 90 fM_st), (arI rM_undone kM_undone 1440 fM_undone), (arI rM_kept kM_kept 270 fM_kept), (arI rM_fresher kM_fresher 8 fM_fresher)]) hP hD rfl
                  obtain ⟨x_7376, ex_7376⟩ : ∃ z : Int32, z = z_7269 + Int32.ofInt 1 := ⟨_, rfl⟩
                  have hG := hG.trans (lt_eq ex_7376)
                  have vx_7376 : x_7376.toInt = z_7269.toInt + 1 := ti_add (y := 1) ex_7376 rfl kc_1 (om_4e4fce7e hi0_n_7271.1) (om_1eac56af hi0_n_7271.2)
                  refine lv_iinc (v := x_7376) (lv' := [(2, .int x_7376), (0, .ref oM), (1, .int p0)]) hx hb dX7_court_74 hl (k := 0) rfl ex_7376.symm (by decide) rfl (fun ls hl => ?_)
                  refine lv_goto (tgt := 61) hx hb dX7_court_77 (by decide) ?_
                  exact ih_n_7271 x_7376 f_7375 _ _ _  ⟨(om_83b90de5 hi0_n_7271.1 vx_7376), (om_1b19dd83 gc_7272 vx_7376)⟩ (zer_step hi1_n_7271 ef_7375 rfl rfl (by have q_1 := ti_cl (x := x_7376) vx_7376 (om_9548a8fd hi0_n_7271.1); have q_2 := ti_cl (x := z_7269) rfl hi0_n_7271.1; omega)) (ms_lt hm_n_7271 (om_59039de0 vx_7376) (om_1d81799e gc_7272)) hG hP hD hS (lv_sub hl [0, 1, 2] rfl)
            exact key_n_7271 (((90 - (0 : Int32).toInt).toNat) + 1) 0 fM_read _ _ _  ⟨(om_b1de7dbe kc_0), (om_aaba5e1c kc_0)⟩ zer_zero (Nat.lt_add_one _) hG hP hD hS hl
          · skip
            have hG := hG.trans (if_neg c_7268)
            have gc_7268 := ti_nle c_7268 kc_287 rfl
            refine lv_aload_n hx hb dX7_court_46 rfl (lv_at hl 1 rfl) ?_
            refine va_get (D := (dC, dI)) (ci := 7) (v := .ref rM_fresh) (C := RX7) (T := TX7) (N := 48) hx hb hts inX7 hown hK hP 0 rfl rfl 16 (by decide) (hts _ wd_156) (fun _ h9 => h9) rfl dX7_court_47 ?_
            refine lv_iload_n hx hb dX7_court_50 rfl (lv_at hl 0 rfl) ?_
            refine lv_iconst (v := 0) hx hb dX7_court_51 (by decide) ?_
            refine va_iast hx hb hK hP hD hS 4 3 rfl rfl (ti_in rfl hi0_n_7267.1 (om_6f4a0172 gc_7268)) dX7_court_52 (fun H locs hP hD hS => ?_)
            obtain ⟨f_7377, ef_7377⟩ : ∃ g : Nat → Int32, g = upd f_7266 z_7265.toNatClampNeg (0 : Int32) := ⟨_, rfl⟩
            rw [← ef_7377] at hP hD
            have hG := hG.trans (lt_eq ef_7377)
            obtain ⟨hP, hD⟩ := wl2 (ws' := [(oc7 oM x_7261 rM_tape 0 iM_size iM_at iM_end iM_token iM_whole iM_nameSize 0 iM_place x_7262 rM_letters 0 iM_hasCourt rM_r rM_fresh rM_told rM_read rM_st rM_undone rM_kept iM_undos iM_images rM_fresher iM_fresherSize iM_scale iM_night rM_heardRow rM_cutRow iM_breaths iM_cutMany iM_allBreaths rM_trial rM_words iM_fewestBreaths iM_orderMany iM_orderSum iM_leastOrder rM_often iM_setMany iM_someOf iM_allOf iM_allWeight iM_enoughWeight iM_worthSum iM_firstRest iM_leastDrawn), (arI rM_tape kM_tape 900 fM_tape), (arI rM_letters kM_letters 8 fM_letters), (arI rM_r kM_r 287 fM_r), (arI rM_fresh kM_fresh 287 f_7377), (arI rM_told kM_told 90 fM_told), (arI rM_read kM_read 90 fM_read), (arI rM_st kM_st 90 fM_st), (arI rM_undone kM_undone 1440 fM_undone), (arI rM_kept kM_kept 270 fM_kept), (arI rM_fresher kM_fresher 8 fM_fresher)]) hP hD rfl
            obtain ⟨x_7378, ex_7378⟩ : ∃ z : Int32, z = z_7265 + Int32.ofInt 1 := ⟨_, rfl⟩
            have hG := hG.trans (lt_eq ex_7378)
            have vx_7378 : x_7378.toInt = z_7265.toInt + 1 := ti_add (y := 1) ex_7378 rfl kc_1 (om_4e4fce7e hi0_n_7267.1) (om_a6c1c990 hi0_n_7267.2)
            refine lv_iinc (v := x_7378) (lv' := [(2, .int x_7378), (0, .ref oM), (1, .int p0)]) hx hb dX7_court_53 hl (k := 0) rfl ex_7378.symm (by decide) rfl (fun ls hl => ?_)
            refine lv_goto (tgt := 39) hx hb dX7_court_56 (by decide) ?_
            exact ih_n_7267 x_7378 f_7377 _ _ _  ⟨(om_83b90de5 hi0_n_7267.1 vx_7378), (om_9856eb95 gc_7268 vx_7378)⟩ (zer_step hi1_n_7267 ef_7377 rfl rfl (by have q_1 := ti_cl (x := x_7378) vx_7378 (om_9548a8fd hi0_n_7267.1); have q_2 := ti_cl (x := z_7265) rfl hi0_n_7267.1; omega)) (ms_lt hm_n_7267 (om_bf0cfbeb vx_7378) (om_cff46e25 gc_7268)) hG hP hD hS (lv_sub hl [0, 1, 2] rfl)
      exact key_n_7267 (((287 - (0 : Int32).toInt).toNat) + 1) 0 fM_fresh _ _ _  ⟨(om_b1de7dbe kc_0), (om_b976e3ef kc_0)⟩ zer_zero (Nat.lt_add_one _) hG hP hD hS hl
    · skip
      have hG := hG.trans (if_pos c_7264)
      have gc_7264 := ti_eq c_7264 rfl kc_0
      exfalso; clear hG; omega
  · skip
    have l9x_7263 := kc_0
    refine lv_if_ne (tgt := 22) hx hb dX7_court_13 (by decide) (fun c_7379 => ?_) (fun c_7379 => ?_)
    · skip
      have hG := hG.trans (if_neg c_7379)
      have gc_7379 := ti_ne c_7379 rfl kc_0
      replace gc_7379 : x_7263.toInt + 1 ≤ 0 := by omega
      exact ((om_5185113d dx_7263.1 gc_7379)).elim
    · skip
      have hG := hG.trans (if_pos c_7379)
      have gc_7379 := ti_eq c_7379 rfl kc_0
      refine lv_aload_n hx hb dX7_court_16 rfl (lv_at hl 0 rfl) ?_
      refine lv_iconst (v := 2) hx hb dX7_court_17 (by decide) ?_
      have hMs := ml_of hD [true, false, false, false, false, false, false, false, false, false, false] (wc := [(oc7 oM x_7261 rM_tape iM_taped iM_size iM_at iM_end iM_token iM_whole iM_nameSize iM_fault iM_place x_7262 rM_letters iM_failed iM_hasCourt rM_r rM_fresh rM_told rM_read rM_st rM_undone rM_kept iM_undos iM_images rM_fresher iM_fresherSize iM_scale iM_night rM_heardRow rM_cutRow iM_breaths iM_cutMany iM_allBreaths rM_trial rM_words iM_fewestBreaths iM_orderMany iM_orderSum iM_leastOrder rM_often iM_setMany iM_someOf iM_allOf iM_allWeight iM_enoughWeight iM_worthSum iM_firstRest iM_leastDrawn)]) rfl
      have hFc := va_freeM hD hS hA _ hMs
      refine va_calli (va_runV (As := [.int 2]) (rest := []) ⟨hx, hb, hml, hown, hts⟩ (tX7_no l dC dI _ oM x_7261 rM_tape iM_taped iM_size iM_at iM_end iM_token iM_whole iM_nameSize iM_fault iM_place x_7262 rM_letters iM_failed iM_hasCourt rM_r rM_fresh rM_told rM_read rM_st rM_undone rM_kept iM_undos iM_images rM_fresher iM_fresherSize iM_scale iM_night rM_heardRow rM_cutRow iM_breaths iM_cutMany iM_allBreaths rM_trial rM_words iM_fewestBreaths iM_orderMany iM_orderSum iM_leastOrder rM_often iM_setMany iM_someOf iM_allOf iM_allWeight iM_enoughWeight iM_worthSum iM_firstRest iM_leastDrawn 2 b_iM_taped b_iM_size b_iM_end b_iM_failed b_iM_hasCourt b_iM_undos b_iM_images b_iM_scale b_iM_breaths b_iM_cutMany) (cwV 1 hts (wd_V wd_396 wd_397 wd_398 wd_5 (wd_c wd_399)) rfl rfl rfl dv_yX7_no_1 ⟨Nat.le_of_ble_eq_true rfl, Nat.le_of_ble_eq_true rfl⟩) ⟨Pw.fb, recvX7 hK hP (q0 := 0) rfl, fun U hU hW => Pw.to (hP.ms _ hMs) (hD.ms _ hMs) (hK.ms [false, false, false, false, false, false, false, false, false, false] rfl) hE hS hFc hU hW⟩ rfl rfl hl.1 rfl (lv_room (Nat.le_of_ble_eq_true rfl)) dX7_court_18 ⟨Nat.le_of_ble_eq_true rfl, Nat.le_of_ble_eq_true rfl⟩) hS (fun q _ h => hFc q h) hFc (fun r u t H locs ht hvm hw hB hz1 hk1 hS => ?_)
      have hru9 := hw.2
      have hw := hw.1
      refine ex_1_1 hB (fun x_7380 e_x_7380_0 hB => ?_)
      obtain ⟨hP, hD⟩ := Bw.goN (ws' := [(oc7 oM x_7261 rM_tape iM_taped iM_size iM_at iM_end iM_token iM_whole iM_nameSize iM_fault iM_place x_7380 rM_letters iM_failed iM_hasCourt rM_r rM_fresh rM_told rM_read rM_st rM_undone rM_kept iM_undos iM_images rM_fresher iM_fresherSize iM_scale iM_night rM_heardRow rM_cutRow iM_breaths iM_cutMany iM_allBreaths rM_trial rM_words iM_fewestBreaths iM_orderMany iM_orderSum iM_leastOrder rM_often iM_setMany iM_someOf iM_allOf iM_allWeight iM_enoughWeight iM_worthSum iM_firstRest iM_leastDrawn), (arI rM_tape kM_tape 900 fM_tape), (arI rM_letters kM_letters 8 fM_letters), (arI rM_r kM_r 287 fM_r), (arI rM_fresh kM_fresh 287 fM_fresh), (arI rM_told kM_told 90 fM_told), (arI rM_read kM_read 90 fM_read), (arI rM_st kM_st 90 fM_st), (arI rM_undone kM_undone 1440 fM_undone), (arI rM_kept kM_kept 270 fM_kept), (arI rM_fresher kM_fresher 8 fM_fresher)]) hB rfl ht hP hD _ hMs hk1 hFc rfl
      clear hz1 hk1 hvm ht hB hMs
      rw [← hru9] at e_x_7380_0
      obtain ⟨x_7381, rfl⟩ : ∃ z, z = r := ⟨_, rfl⟩
      have hG := hG.trans (un2_eq e_x_7380_0)
      exact wq_i hx hb hr (cI x_7381) ⟨⟨trivial, trivial⟩, (cI_of x_7381)⟩ (fun t ht hW => ⟨x_7261, iM_taped, iM_size, iM_at, iM_end, iM_token, iM_whole, iM_nameSize, iM_fault, iM_place, x_7380, iM_failed, iM_hasCourt, iM_undos, iM_images, iM_fresherSize, iM_scale, fM_letters, fM_r, fM_fresh, fM_told, fM_read, fM_st, fM_fresher, ⟨b_iM_taped.1, b_iM_taped.2⟩, ⟨b_iM_size.1, b_iM_size.2⟩, ⟨b_iM_end.1, b_iM_end.2⟩, ⟨b_iM_nameSize.1, b_iM_nameSize.2⟩, ⟨b_iM_failed.1, b_iM_failed.2⟩, ⟨b_iM_hasCourt.1, b_iM_hasCourt.2⟩, ⟨b_iM_undos.1, b_iM_undos.2⟩, ⟨b_iM_images.1, b_iM_images.2⟩, ⟨b_iM_scale.1, b_iM_scale.2⟩, (by have q0 := kc_0; have q1 := kc_1; first | assumption | omega), (by have q0 := kc_0; have q1 := kc_1; first | assumption | omega), (by have q0 := kc_0; have q1 := kc_1; first | assumption | omega), (by have q0 := kc_0; have q1 := kc_1; first | assumption | omega), (by have q0 := kc_0; have q1 := kc_1; first | assumption | omega), (by have q0 := kc_0; have q1 := kc_1; first | assumption | omega), (by have q0 := kc_0; have q1 := kc_1; first | assumption | omega), r_T, (by have q0 := kc_0; have q1 := kc_1; first | assumption | omega), (cI_tup hG), Bw.to hP hD hK ht hW⟩) hS dX7_court_21 hlocks
