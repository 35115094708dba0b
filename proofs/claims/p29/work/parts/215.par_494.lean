set_option maxHeartbeats 4000000 in
set_option maxRecDepth 100000 in
theorem tX7_layScale (l : Launch) (dC : Nat → ClassId) (dI : Nat → Nat → Nat) (sz : Nat) (oM : Nat) (iM_thrown : Int32) (rM_tape : Nat) (iM_taped : Int32) (iM_size : Int32) (iM_at : Int32) (iM_end : Int32) (iM_token : Int32) (iM_whole : Int32) (iM_nameSize : Int32) (iM_fault : Int32) (iM_place : Int32) (iM_trouble : Int32) (rM_letters : Nat) (iM_failed : Int32) (iM_hasCourt : Int32) (rM_r : Nat) (fM_r : Nat → Int32) (kM_r : ClassId) (rM_fresh : Nat) (rM_told : Nat) (rM_read : Nat) (rM_st : Nat) (rM_undone : Nat) (rM_kept : Nat) (iM_undos : Int32) (iM_images : Int32) (rM_fresher : Nat) (iM_fresherSize : Int32) (iM_scale : Int32) (iM_night : Int32) (rM_heardRow : Nat) (rM_cutRow : Nat) (iM_breaths : Int32) (iM_cutMany : Int32) (iM_allBreaths : Int32) (rM_trial : Nat) (rM_words : Nat) (iM_fewestBreaths : Int32) (iM_orderMany : Int32) (iM_orderSum : Int32) (iM_leastOrder : Int32) (rM_often : Nat) (iM_setMany : Int32) (iM_someOf : Int32) (iM_allOf : Int32) (iM_allWeight : Int64) (iM_enoughWeight : Int64) (iM_worthSum : Int64) (iM_firstRest : Int32) (iM_leastDrawn : Int32) (b_iM_taped : 0 ≤ iM_taped.toInt ∧ iM_taped.toInt ≤ 900) (b_iM_size : 0 ≤ iM_size.toInt ∧ iM_size.toInt ≤ 900) (b_iM_end : 0 ≤ iM_end.toInt ∧ iM_end.toInt ≤ 900) (b_iM_failed : 0 ≤ iM_failed.toInt ∧ iM_failed.toInt ≤ 1) (b_iM_hasCourt : 0 ≤ iM_hasCourt.toInt ∧ iM_hasCourt.toInt ≤ 1) (b_iM_undos : 0 ≤ iM_undos.toInt ∧ iM_undos.toInt ≤ 16) (b_iM_images : 0 ≤ iM_images.toInt ∧ iM_images.toInt ≤ 3) (b_iM_scale : 1 ≤ iM_scale.toInt ∧ iM_scale.toInt ≤ 1296) (b_iM_breaths : 0 ≤ iM_breaths.toInt ∧ iM_breaths.toInt ≤ 399) (b_iM_cutMany : 0 ≤ iM_cutMany.toInt ∧ iM_cutMany.toInt ≤ 399) (r_R : ROk fM_r) (r_C : iM_hasCourt.toInt ≤ 0 ∨ (1 ≤ (fM_r 1).toInt ∧ 0 ≤ (fM_r 6).toInt ∧ (fM_r 6).toInt < (fM_r 1).toInt))  : Met l yX7_layScale (Cond.code yX7_layScale cX7_layScale 2 none :: wG) ({ frames := 1, cells := 0, slots := 0, locals := 23 }) (va_Pc [.ref oM] (Pw dC dI sz [(oc7 oM iM_thrown rM_tape iM_taped iM_size iM_at iM_end iM_token iM_whole iM_nameSize iM_fault iM_place iM_trouble rM_letters iM_failed iM_hasCourt rM_r rM_fresh rM_told rM_read rM_st rM_undone rM_kept iM_undos iM_images rM_fresher iM_fresherSize iM_scale iM_night rM_heardRow rM_cutRow iM_breaths iM_cutMany iM_allBreaths rM_trial rM_words iM_fewestBreaths iM_orderMany iM_orderSum iM_leastOrder rM_often iM_setMany iM_someOf iM_allOf iM_allWeight iM_enoughWeight iM_worthSum iM_firstRest iM_leastDrawn), (arI rM_r kM_r 287 fM_r)] [(kM_r, .int)])) (va_Qv (fun (_ : Nat) => True) (fun (_ : Nat) (t : State) => ∃ (niM_scale : Int32), (1 ≤ niM_scale.toInt ∧ niM_scale.toInt ≤ 1296) ∧ (PX7_layScale fM_r = niM_scale) ∧ Bw dC dI (va_A [(oc7 oM iM_thrown rM_tape iM_taped iM_size iM_at iM_end iM_token iM_whole iM_nameSize iM_fault iM_place iM_trouble rM_letters iM_failed iM_hasCourt rM_r rM_fresh rM_told rM_read rM_st rM_undone rM_kept iM_undos iM_images rM_fresher iM_fresherSize iM_scale iM_night rM_heardRow rM_cutRow iM_breaths iM_cutMany iM_allBreaths rM_trial rM_words iM_fewestBreaths iM_orderMany iM_orderSum iM_leastOrder rM_often iM_setMany iM_someOf iM_allOf iM_allWeight iM_enoughWeight iM_worthSum iM_firstRest iM_leastDrawn), (arI rM_r kM_r 287 fM_r)] sz) [(oc7 oM iM_thrown rM_tape iM_taped iM_size iM_at iM_end iM_token iM_whole iM_nameSize iM_fault iM_place iM_trouble rM_letters iM_failed iM_hasCourt rM_r rM_fresh rM_told rM_read rM_st rM_undone rM_kept iM_undos iM_images rM_fresher iM_fresherSize niM_scale iM_night rM_heardRow rM_cutRow iM_breaths iM_cutMany iM_allBreaths rM_trial rM_words iM_fewestBreaths iM_orderMany iM_orderSum iM_leastOrder rM_often iM_setMany iM_someOf iM_allOf iM_allWeight iM_enoughWeight iM_worthSum iM_firstRest iM_leastDrawn), (arI rM_r kM_r 287 fM_r)] [(kM_r, .int)] t) (va_A [(oc7 oM iM_thrown rM_tape iM_taped iM_size iM_at iM_end iM_token iM_whole iM_nameSize iM_fault iM_place iM_trouble rM_letters iM_failed iM_hasCourt rM_r rM_fresh rM_told rM_read rM_st rM_undone rM_kept iM_undos iM_images rM_fresher iM_fresherSize iM_scale iM_night rM_heardRow rM_cutRow iM_breaths iM_cutMany iM_allBreaths rM_trial rM_words iM_fewestBreaths iM_orderMany iM_orderSum iM_leastOrder rM_often iM_setMany iM_someOf iM_allOf iM_allWeight iM_enoughWeight iM_worthSum iM_firstRest iM_leastDrawn), (arI rM_r kM_r 287 fM_r)] sz)) 0 0 (va_A [(oc7 oM iM_thrown rM_tape iM_taped iM_size iM_at iM_end iM_token iM_whole iM_nameSize iM_fault iM_place iM_trouble rM_letters iM_failed iM_hasCourt rM_r rM_fresh rM_told rM_read rM_st rM_undone rM_kept iM_undos iM_images rM_fresher iM_fresherSize iM_scale iM_night rM_heardRow rM_cutRow iM_breaths iM_cutMany iM_allBreaths rM_trial rM_words iM_fewestBreaths iM_orderMany iM_orderSum iM_leastOrder rM_often iM_setMany iM_someOf iM_allOf iM_allWeight iM_enoughWeight iM_worthSum iM_firstRest iM_leastDrawn), (arI rM_r kM_r 287 fM_r)] sz) := by
  refine Met.ofW (cc := cX7_layScale) (maxL := 2) (ret := none) pnX7 rfl ?_
  intro p e s m args below meth c s₁ B hml hv
  obtain ⟨rfl, hsz, hP, hK, hD0, hE⟩ := hv
  have hx := B.exec
  have hb := B.bytes
  have hr := B.returns
  have hts : ∀ w ∈ wG, w.before ([.ref oM] : List Value).toArray s = true := fun w h => atoms_spec (ws := Cond.code yX7_layScale cX7_layScale 2 none :: wG) B.pre w (List.mem_cons_of_mem _ h)
  have hown : s.vm.findClass RX7 = some m.cls := own_of B.named rfl
  have hlocks := B.notSynchronized
  subst hsz
  have hD := hD0.self (sz := s.heap.size)
  generalize hAe : va_A [(oc7 oM iM_thrown rM_tape iM_taped iM_size iM_at iM_end iM_token iM_whole iM_nameSize iM_fault iM_place iM_trouble rM_letters iM_failed iM_hasCourt rM_r rM_fresh rM_told rM_read rM_st rM_undone rM_kept iM_undos iM_images rM_fresher iM_fresherSize iM_scale iM_night rM_heardRow rM_cutRow iM_breaths iM_cutMany iM_allBreaths rM_trial rM_words iM_fewestBreaths iM_orderMany iM_orderSum iM_leastOrder rM_often iM_setMany iM_someOf iM_allOf iM_allWeight iM_enoughWeight iM_worthSum iM_firstRest iM_leastDrawn), (arI rM_r kM_r 287 fM_r)] s.heap.size = A at hD hE ⊢
  have hA : ∀ q : Nat, s.heap.size ≤ q → A q := fun q h => by rw [← hAe]; exact Or.inr h
  have hS : va_S A s.heap s.heap [] := va_S.rf
  have hl := lv_entry ([.ref oM]) (n := 2) (Nat.le_of_ble_eq_true rfl)
  rw [lg_entry_eq]
  generalize (lg_sl ([.ref oM]) ++ List.replicate (2 - (lg_sl ([.ref oM])).length) Slot.unset).toArray = ls at hl ⊢
  have hl : lv_has ls 2 [(0, .ref oM)] := hl
  have hG := PX7_layScale_eq fM_r
  have s_slips := r_R.slips
  have s_nodes := r_R.nodes
  have s_uns := r_R.uns
  refine lv_aload_n hx hb dX7_layScale_0 rfl (lv_at hl 0 rfl) ?_
  refine lv_iconst (v := 1) hx hb dX7_layScale_1 (by decide) ?_
  refine va_put (D := (dC, dI)) (ci := 7) (v := .int 1) (ty := .int) (C := RX7) (T := TX7) (N := 48) hx hb hts inX7 tyX7 tyX7_ok nmX7 hown hK hP hD hS 0 rfl rfl 26 (by decide) (hts _ wd_163) (fun _ h9 => h9) rfl (by decide +kernel) rfl rfl (Nat.le_of_ble_eq_true rfl) dX7_layScale_2 (fun H locs hP hD hS => ?_)
  obtain ⟨hP, hD⟩ := wl2 (ws' := [(oc7 oM iM_thrown rM_tape iM_taped iM_size iM_at iM_end iM_token iM_whole iM_nameSize iM_fault iM_place iM_trouble rM_letters iM_failed iM_hasCourt rM_r rM_fresh rM_told rM_read rM_st rM_undone rM_kept iM_undos iM_images rM_fresher iM_fresherSize 1 iM_night rM_heardRow rM_cutRow iM_breaths iM_cutMany iM_allBreaths rM_trial rM_words iM_fewestBreaths iM_orderMany iM_orderSum iM_leastOrder rM_often iM_setMany iM_someOf iM_allOf iM_allWeight iM_enoughWeight iM_worthSum iM_firstRest iM_leastDrawn), (arI rM_r kM_r 287 fM_r)]) hP hD rfl
  refine lv_iconst (v := 0) hx hb dX7_layScale_5 (by decide) ?_
  refine lv_istore_n (lv' := [(1, .int 0), (0, .ref oM)]) hx hb dX7_layScale_6 rfl hl (by decide) rfl (fun ls hl => ?_)
  have hl := lv_sub hl (l' := [(1, .int 0), (0, .ref oM)]) [0, 1] rfl
  have key_n_6903 : ∀ (n_6903 : Nat) (z_6901 : Int32) (z_6902 : Int32) (H : Heap) (locs : List Loc) (ls : Array Slot), (1 ≤ z_6902.toInt ∧ z_6902.toInt ≤ 1296) → (0 ≤ z_6901.toInt ∧ z_6901.toInt ≤ (fM_r 1).toInt) → (ScI (cntP (fun k => (fM_r (9 + k)).toInt = 3) (z_6901.toNatClampNeg)) z_6902.toInt) → ((fM_r 1).toInt - z_6901.toInt).toNat < n_6903 → (PX7_layScale fM_r = HX7_layScale_0 fM_r n_6903 z_6901 z_6902) → va_P (dC, dI) vwCl [(oc7 oM iM_thrown rM_tape iM_taped iM_size iM_at iM_end iM_token iM_whole iM_nameSize iM_fault iM_place iM_trouble rM_letters iM_failed iM_hasCourt rM_r rM_fresh rM_told rM_read rM_st rM_undone rM_kept iM_undos iM_images rM_fresher iM_fresherSize z_6902 iM_night rM_heardRow rM_cutRow iM_breaths iM_cutMany iM_allBreaths rM_trial rM_words iM_fewestBreaths iM_orderMany iM_orderSum iM_leastOrder rM_often iM_setMany iM_someOf iM_allOf iM_allWeight iM_enoughWeight iM_worthSum iM_firstRest iM_leastDrawn), (arI rM_r kM_r 287 fM_r)] H → va_D A [(oc7 oM iM_thrown rM_tape iM_taped iM_size iM_at iM_end iM_token iM_whole iM_nameSize iM_fault iM_place iM_trouble rM_letters iM_failed iM_hasCourt rM_r rM_fresh rM_told rM_read rM_st rM_undone rM_kept iM_undos iM_images rM_fresher iM_fresherSize z_6902 iM_night rM_heardRow rM_cutRow iM_breaths iM_cutMany iM_allBreaths rM_trial rM_words iM_fewestBreaths iM_orderMany iM_orderSum iM_leastOrder rM_often iM_setMany iM_someOf iM_allOf iM_allWeight iM_enoughWeight iM_worthSum iM_firstRest iM_leastDrawn), (arI rM_r kM_r 287 fM_r)] → va_S A s.heap H locs → lv_has ls 2 [(1, .int z_6901), (0, .ref oM)] → W p l e (headSpec (Cond.code yX7_layScale cX7_layScale 2 none :: wG) ({ frames := 1, cells := 0, slots := 0, locals := 23 })).room s m ([.ref oM] : List Value).toArray below meth c H locs 0 0 (MQ below (va_Qv (fun (_ : Nat) => True) (fun (_ : Nat) (t : State) => ∃ (niM_scale : Int32), (1 ≤ niM_scale.toInt ∧ niM_scale.toInt ≤ 1296) ∧ (PX7_layScale fM_r = niM_scale) ∧ Bw dC dI A [(oc7 oM iM_thrown rM_tape iM_taped iM_size iM_at iM_end iM_token iM_whole iM_nameSize iM_fault iM_place iM_trouble rM_letters iM_failed iM_hasCourt rM_r rM_fresh rM_told rM_read rM_st rM_undone rM_kept iM_undos iM_images rM_fresher iM_fresherSize niM_scale iM_night rM_heardRow rM_cutRow iM_breaths iM_cutMany iM_allBreaths rM_trial rM_words iM_fewestBreaths iM_orderMany iM_orderSum iM_leastOrder rM_often iM_setMany iM_someOf iM_allOf iM_allWeight iM_enoughWeight iM_worthSum iM_firstRest iM_leastDrawn), (arI rM_r kM_r 287 fM_r)] [(kM_r, .int)] t) A) ([.ref oM] : List Value).toArray s 0 0 A) (F0 m 7 ls []) := by
    intro n_6903
    induction n_6903 with
    | zero => intro z_6901 z_6902 H locs ls b_z_6902 hi0_n_6903 hi1_n_6903 hm; exact absurd hm (Nat.not_lt_zero _)
    | succ n_6903 ih_n_6903 =>
      intro z_6901 z_6902 H locs ls b_z_6902 hi0_n_6903 hi1_n_6903 hm_n_6903 hG hP hD hS hl
      have hG := hG.trans (HX7_layScale_0_eq _ _ _ _)
      refine lv_iload_n hx hb dX7_layScale_7 rfl (lv_at hl 0 rfl) ?_
      refine lv_aload_n hx hb dX7_layScale_8 rfl (lv_at hl 1 rfl) ?_
      refine va_get (D := (dC, dI)) (ci := 7) (v := .ref rM_r) (C := RX7) (T := TX7) (N := 48) hx hb hts inX7 hown hK hP 0 rfl rfl 15 (by decide) (hts _ wd_155) (fun _ h9 => h9) rfl dX7_layScale_9 ?_
      refine lv_iconst (v := 1) hx hb dX7_layScale_12 (by decide) ?_
      refine va_iald hx hb hK hP 1 0 rfl rfl (by unfold vp_in; decide) dX7_layScale_13 ?_
      refine lv_topi (fun x_6904 ex_6904 => ?_)
      have hG := hG.trans (lt_eq ex_6904)
      have cx_6904 : (fM_r 1).toInt = x_6904.toInt := congrArg Int32.toInt (show fM_r 1 = x_6904 from ex_6904.symm)
      have sx_6904 := r_R.nodes
      refine lv_icmp_ge (tgt := 50) hx hb dX7_layScale_14 (by decide) (fun c_6905 => ?_) (fun c_6905 => ?_)
      · skip
        have hG := hG.trans (if_pos c_6905)
        have gc_6905 := ti_le c_6905 rfl rfl
        exact wq_v hx hb hr 0 trivial (fun t ht hW => ⟨z_6902, b_z_6902, hG, Bw.to hP hD hK ht hW⟩) hS dX7_layScale_50 hlocks
      · skip
        have hG := hG.trans (if_neg c_6905)
        have gc_6905 := ti_nle c_6905 rfl rfl
        refine lv_aload_n hx hb dX7_layScale_17 rfl (lv_at hl 1 rfl) ?_
        refine va_get (D := (dC, dI)) (ci := 7) (v := .ref rM_r) (C := RX7) (T := TX7) (N := 48) hx hb hts inX7 hown hK hP 0 rfl rfl 15 (by decide) (hts _ wd_155) (fun _ h9 => h9) rfl dX7_layScale_18 ?_
        refine lv_bipush (v := 9) hx hb dX7_layScale_21 (by decide) ?_
        refine lv_iload_n hx hb dX7_layScale_23 rfl (lv_at hl 0 rfl) ?_
        refine lv_iadd hx hb dX7_layScale_24 ?_
        refine lv_topi (fun x_6906 ex_6906 => ?_)
        have hG := hG.trans (lt_eq ex_6906)
        have vx_6906 : x_6906.toInt = z_6901.toInt + 9 := om_296ce4dd (ti_add ex_6906 kc_9 rfl (om_090bbef4 hi0_n_6903.1) (om_40a1f881 s_nodes.2 hi0_n_6903.2))
        refine va_iald hx hb hK hP 1 0 rfl rfl (ti_in vx_6906 (om_edbe2e4c hi0_n_6903.1) (om_5e511aa9 s_nodes.2 hi0_n_6903.2)) dX7_layScale_25 ?_
        refine lv_topi (fun x_6907 ex_6907 => ?_)
        have hG := hG.trans (lt_eq ex_6907)
        have kx_6907 : (fM_r x_6906.toNatClampNeg).toInt = x_6907.toInt := by rw [ex_6907]
        have cx_6907 : (fM_r (9 + z_6901.toNatClampNeg)).toInt = x_6907.toInt := by rw [show 9 + z_6901.toNatClampNeg = x_6906.toNatClampNeg from (om_32f1c3e7 (ti_cl (x := z_6901) rfl hi0_n_6903.1) (ti_cl (x := x_6906) vx_6906 (om_edbe2e4c hi0_n_6903.1)))]; exact kx_6907
        have sx_6907 := r_R.kind x_6906.toNatClampNeg (om_462cc4af (ti_cl (x := x_6906) vx_6906 (om_edbe2e4c hi0_n_6903.1)) hi0_n_6903.1) (om_19da1274 (ti_cl (x := x_6906) vx_6906 (om_edbe2e4c hi0_n_6903.1)) s_nodes.2 cx_6904 gc_6905)
        have ct9 := cnt_at (P := fun k => (fM_r (9 + k)).toInt = 3) z_6901.toNatClampNeg
        have cb9 := r_R.cc (z_6901.toNatClampNeg + 1) (by have q1 := ti_cl (x := z_6901) rfl hi0_n_6903.1; omega)
        refine lv_iconst (v := 3) hx hb dX7_layScale_26 (by decide) ?_
        refine lv_icmp_ne (tgt := 44) hx hb dX7_layScale_27 (by decide) (fun c_6908 => ?_) (fun c_6908 => ?_)
        · skip
          have hG := hG.trans (if_neg c_6908)
          have gc_6908 := ti_ne c_6908 rfl kc_3
          replace gc_6908 : x_6907.toInt + (-2) ≤ 0 := om_3c8c485b gc_6908 kx_6907 sx_6907.2
          obtain ⟨x_6909, ex_6909⟩ : ∃ z : Int32, z = z_6901 + Int32.ofInt 1 := ⟨_, rfl⟩
          have hG := hG.trans (lt_eq ex_6909)
          have vx_6909 : x_6909.toInt = z_6901.toInt + 1 := ti_add (y := 1) ex_6909 rfl kc_1 (om_4e4fce7e hi0_n_6903.1) (om_656ddbff s_nodes.2 hi0_n_6903.2)
          refine lv_iinc (v := x_6909) (lv' := [(1, .int x_6909), (0, .ref oM)]) hx hb dX7_layScale_44 hl (k := 0) rfl ex_6909.symm (by decide) rfl (fun ls hl => ?_)
          refine lv_goto (tgt := 7) hx hb dX7_layScale_47 (by decide) ?_
          exact ih_n_6903 x_6909 z_6902 _ _ _ b_z_6902 ⟨(om_83b90de5 hi0_n_6903.1 vx_6909), (om_1ad1f819 cx_6904 gc_6905 vx_6909)⟩ (by rw [show x_6909.toNatClampNeg = z_6901.toNatClampNeg + 1 from (by have q_1 := ti_cl (x := x_6909) vx_6909 (om_9548a8fd hi0_n_6903.1); have q_2 := ti_cl (x := z_6901) rfl hi0_n_6903.1; omega)]; rw [ct9.2 (by show ¬ (fM_r (9 + z_6901.toNatClampNeg)).toInt = 3; omega)]; exact hi1_n_6903) (ms_lt hm_n_6903 (om_dd4ae0bc vx_6909) (om_6d498008 cx_6904 gc_6905)) hG hP hD hS (lv_sub hl [0, 1] rfl)
        · skip
          have hG := hG.trans (if_pos c_6908)
          have gc_6908 := ti_eq c_6908 rfl kc_3
          refine lv_aload_n hx hb dX7_layScale_30 rfl (lv_at hl 1 rfl) ?_
          refine lv_dup hx hb dX7_layScale_31 rfl ?_
          refine va_get (D := (dC, dI)) (ci := 7) (v := .int z_6902) (C := RX7) (T := TX7) (N := 48) hx hb hts inX7 hown hK hP 0 rfl rfl 26 (by decide) (hts _ wd_163) (fun _ h9 => h9) rfl dX7_layScale_32 ?_
          refine lv_aload_n hx hb dX7_layScale_35 rfl (lv_at hl 1 rfl) ?_
          refine lv_iload_n hx hb dX7_layScale_36 rfl (lv_at hl 0 rfl) ?_
          have hFc := va_freeI hD hS hA
          refine va_calli (va_runV (As := [.int z_6901]) (rest := [.int z_6902, .ref oM]) ⟨hx, hb, hml, hown, hts⟩ (tX7_weightsOf l dC dI _ oM iM_thrown rM_tape iM_taped iM_size iM_at iM_end iM_token iM_whole iM_nameSize iM_fault iM_place iM_trouble rM_letters iM_failed iM_hasCourt rM_r fM_r kM_r rM_fresh rM_told rM_read rM_st rM_undone rM_kept iM_undos iM_images rM_fresher iM_fresherSize z_6902 iM_night rM_heardRow rM_cutRow iM_breaths iM_cutMany iM_allBreaths rM_trial rM_words iM_fewestBreaths iM_orderMany iM_orderSum iM_leastOrder rM_often iM_setMany iM_someOf iM_allOf iM_allWeight iM_enoughWeight iM_worthSum iM_firstRest iM_leastDrawn z_6901 b_iM_taped b_iM_size b_iM_end b_iM_failed b_iM_hasCourt b_iM_undos b_iM_images b_z_6902 b_iM_breaths b_iM_cutMany (by assumption) (by assumption) ⟨hi0_n_6903.1, (om_644b432c cx_6904 gc_6905)⟩ (om_5edc6190 cx_6907 gc_6908)) (cwV 1 hts (wd_V wd_506 wd_507 wd_508 wd_5 (wd_c wd_509)) rfl rfl rfl dv_yX7_weightsOf_1 ⟨Nat.le_of_ble_eq_true rfl, Nat.le_of_ble_eq_true rfl⟩) ⟨Pw.fb, recvX7 hK hP (q0 := 0) rfl, fun U hU hW => Pw.to hP hD hK hE hS hFc hU hW⟩ rfl rfl hl.1 rfl (lv_room (Nat.le_of_ble_eq_true rfl)) dX7_layScale_37 ⟨Nat.le_of_ble_eq_true rfl, Nat.le_of_ble_eq_true rfl⟩) hS (fun q _ h => hFc q h) hFc (fun r u t H locs ht hvm hw hB hz1 hk1 hS => ?_)
          have hru9 := hw.2
          have hw := hw.1
          obtain ⟨hP, hD⟩ := Bw.goA (ws' := [(oc7 oM iM_thrown rM_tape iM_taped iM_size iM_at iM_end iM_token iM_whole iM_nameSize iM_fault iM_place iM_trouble rM_letters iM_failed iM_hasCourt rM_r rM_fresh rM_told rM_read rM_st rM_undone rM_kept iM_undos iM_images rM_fresher iM_fresherSize z_6902 iM_night rM_heardRow rM_cutRow iM_breaths iM_cutMany iM_allBreaths rM_trial rM_words iM_fewestBreaths iM_orderMany iM_orderSum iM_leastOrder rM_often iM_setMany iM_someOf iM_allOf iM_allWeight iM_enoughWeight iM_worthSum iM_firstRest iM_leastDrawn), (arI rM_r kM_r 287 fM_r)]) hB rfl ht hFc rfl
          clear hz1 hk1 hvm ht hB
          obtain ⟨x_6910, rfl⟩ : ∃ z, z = r := ⟨_, rfl⟩
          have hG := hG.trans (lt_eq hru9.symm)
          have ux_6910 := hw.2
          refine lv_imul hx hb dX7_layScale_40 ?_
          refine lv_topi (fun x_6911 ex_6911 => ?_)
          have hG := hG.trans (lt_eq ex_6911)
          have ce9 := ct9.1 (by show (fM_r (9 + z_6901.toNatClampNeg)).toInt = 3; omega)
          have sm9 := sc_mul hi1_n_6903 (by omega) ex_6911 (by omega)
          have sn9 := sm9.2
          refine va_put (D := (dC, dI)) (ci := 7) (v := .int x_6911) (ty := .int) (C := RX7) (T := TX7) (N := 48) hx hb hts inX7 tyX7 tyX7_ok nmX7 hown hK hP hD hS 0 rfl rfl 26 (by decide) (hts _ wd_163) (fun _ h9 => h9) rfl (by decide +kernel) rfl rfl (Nat.le_of_ble_eq_true rfl) dX7_layScale_41 (fun H locs hP hD hS => ?_)
          obtain ⟨hP, hD⟩ := wl2 (ws' := [(oc7 oM iM_thrown rM_tape iM_taped iM_size iM_at iM_end iM_token iM_whole iM_nameSize iM_fault iM_place iM_trouble rM_letters iM_failed iM_hasCourt rM_r rM_fresh rM_told rM_read rM_st rM_undone rM_kept iM_undos iM_images rM_fresher iM_fresherSize x_6911 iM_night rM_heardRow rM_cutRow iM_breaths iM_cutMany iM_allBreaths rM_trial rM_words iM_fewestBreaths iM_orderMany iM_orderSum iM_leastOrder rM_often iM_setMany iM_someOf iM_allOf iM_allWeight iM_enoughWeight iM_worthSum iM_firstRest iM_leastDrawn), (arI rM_r kM_r 287 fM_r)]) hP hD rfl
          obtain ⟨x_6912, ex_6912⟩ : ∃ z : Int32, z = z_6901 + Int32.ofInt 1 := ⟨_, rfl⟩
          have hG := hG.trans (lt_eq ex_6912)
          have vx_6912 : x_6912.toInt = z_6901.toInt + 1 := ti_add (y := 1) ex_6912 rfl kc_1 (om_4e4fce7e hi0_n_6903.1) (om_656ddbff s_nodes.2 hi0_n_6903.2)
          refine lv_iinc (v := x_6912) (lv' := [(1, .int x_6912), (0, .ref oM)]) hx hb dX7_layScale_44 hl (k := 0) rfl ex_6912.symm (by decide) rfl (fun ls hl => ?_)
          refine lv_goto (tgt := 7) hx hb dX7_layScale_47 (by decide) ?_
          exact ih_n_6903 x_6912 x_6911 _ _ _ ⟨by omega, by omega⟩ ⟨(om_83b90de5 hi0_n_6903.1 vx_6912), (om_1ad1f819 cx_6904 gc_6905 vx_6912)⟩ (by rw [show x_6912.toNatClampNeg = z_6901.toNatClampNeg + 1 from (by have q_1 := ti_cl (x := x_6912) vx_6912 (om_9548a8fd hi0_n_6903.1); have q_2 := ti_cl (x := z_6901) rfl hi0_n_6903.1; omega)]; rw [ce9]; exact sm9.1) (ms_lt hm_n_6903 (om_dd4ae0bc vx_6912) (om_6d498008 cx_6904 gc_6905)) hG hP hD hS (lv_sub hl [0, 1] rfl)
  exact key_n_6903 ((((fM_r 1).toInt - (0 : Int32).toInt).toNat) + 1) 0 1 _ _ _ (by decide) ⟨(om_b1de7dbe kc_0), (om_2dfe280d s_nodes.1 kc_0)⟩ (by first | assumption | omega | decide | exact Or.inl ⟨rfl, kc_1⟩) (Nat.lt_add_one _) hG hP hD hS hl
set_option maxHeartbeats 4000000 in
set_option maxRecDepth 100000 in
theorem tX7_feed (l : Launch) (dC : Nat → ClassId) (dI : Nat → Nat → Nat) (sz : Nat) (oM : Nat) (iM_thrown : Int32) (rM_tape : Nat) (fM_tape : Nat → Int32) (kM_tape : ClassId) (iM_taped : Int32) (iM_size : Int32) (iM_at : Int32) (iM_end : Int32) (iM_token : Int32) (iM_whole : Int32) (iM_nameSize : Int32) (iM_fault : Int32) (iM_place : Int32) (iM_trouble : Int32) (rM_letters : Nat) (iM_failed : Int32) (iM_hasCourt : Int32) (rM_r : Nat) (rM_fresh : Nat) (rM_told : Nat) (rM_read : Nat) (rM_st : Nat) (rM_undone : Nat) (rM_kept : Nat) (iM_undos : Int32) (iM_images : Int32) (rM_fresher : Nat) (iM_fresherSize : Int32) (iM_scale : Int32) (iM_night : Int32) (rM_heardRow : Nat) (rM_cutRow : Nat) (iM_breaths : Int32) (iM_cutMany : Int32) (iM_allBreaths : Int32) (rM_trial : Nat) (rM_words : Nat) (iM_fewestBreaths : Int32) (iM_orderMany : Int32) (iM_orderSum : Int32) (iM_leastOrder : Int32) (rM_often : Nat) (iM_setMany : Int32) (iM_someOf : Int32) (iM_allOf : Int32) (iM_allWeight : Int64) (iM_enoughWeight : Int64) (iM_worthSum : Int64) (iM_firstRest : Int32) (iM_leastDrawn : Int32) (p0 : Int32) (p1 : Int32) (p2 : Int32) (p3 : Int32) (p4 : Int32) (b_iM_taped : 0 ≤ iM_taped.toInt ∧ iM_taped.toInt ≤ 900) (b_iM_size : 0 ≤ iM_size.toInt ∧ iM_size.toInt ≤ 900) (b_iM_end : 0 ≤ iM_end.toInt ∧ iM_end.toInt ≤ 900) (b_iM_failed : 0 ≤ iM_failed.toInt ∧ iM_failed.toInt ≤ 1) (b_iM_hasCourt : 0 ≤ iM_hasCourt.toInt ∧ iM_hasCourt.toInt ≤ 1) (b_iM_undos : 0 ≤ iM_undos.toInt ∧ iM_undos.toInt ≤ 16) (b_iM_images : 0 ≤ iM_images.toInt ∧ iM_images.toInt ≤ 3) (b_iM_scale : 1 ≤ iM_scale.toInt ∧ iM_scale.toInt ≤ 1296) (b_iM_breaths : 0 ≤ iM_breaths.toInt ∧ iM_breaths.toInt ≤ 399) (b_iM_cutMany : 0 ≤ iM_cutMany.toInt ∧ iM_cutMany.toInt ≤ 399)  : Met l yX7_feed (Cond.code yX7_feed cX7_feed 8 (some .int) :: wG) ({ frames := 0, cells := 0, slots := 0, locals := 0 }) (va_Pc [.ref oM, .int p0, .int p1, .int p2, .int p3, .int p4] (Pw dC dI sz [(oc7 oM iM_thrown rM_tape iM_taped iM_size iM_at iM_end iM_token iM_whole iM_nameSize iM_fault iM_place iM_trouble rM_letters iM_failed iM_hasCourt rM_r rM_fresh rM_told rM_read rM_st rM_undone rM_kept iM_undos iM_images rM_fresher iM_fresherSize iM_scale iM_night rM_heardRow rM_cutRow iM_breaths iM_cutMany iM_allBreaths rM_trial rM_words iM_fewestBreaths iM_orderMany iM_orderSum iM_leastOrder rM_often iM_setMany iM_someOf iM_allOf iM_allWeight iM_enoughWeight iM_worthSum iM_firstRest iM_leastDrawn), (arI rM_tape kM_tape 900 fM_tape)] [(kM_tape, .int)])) (va_Qi (fun (r : Int32) (u : Nat) => (True ∧ ((880 < iM_taped.toInt ∧ r.toInt = -1) ∨ (iM_taped.toInt ≤ 880 ∧ r.toInt = iM_taped.toInt + 20))) ∧ r = Int32.ofNat u) (fun (u : Nat) (t : State) => ∃ (niM_thrown : Int32) (niM_taped : Int32) (nfM_tape : Nat → Int32), (0 ≤ niM_thrown.toInt ∧ niM_thrown.toInt ≤ 0) ∧ (0 ≤ niM_taped.toInt ∧ niM_taped.toInt ≤ 900) ∧ ((880 < iM_taped.toInt ∧ niM_taped.toInt = iM_taped.toInt) ∨ (iM_taped.toInt ≤ 880 ∧ niM_taped.toInt = iM_taped.toInt + 20)) ∧ (PX7_feed fM_tape iM_taped p0 p1 p2 p3 p4 = (Int32.ofNat u, niM_thrown, niM_taped, nfM_tape)) ∧ Bw dC dI (va_A [(oc7 oM iM_thrown rM_tape iM_taped iM_size iM_at iM_end iM_token iM_whole iM_nameSize iM_fault iM_place iM_trouble rM_letters iM_failed iM_hasCourt rM_r rM_fresh rM_told rM_read rM_st rM_undone rM_kept iM_undos iM_images rM_fresher iM_fresherSize iM_scale iM_night rM_heardRow rM_cutRow iM_breaths iM_cutMany iM_allBreaths rM_trial rM_words iM_fewestBreaths iM_orderMany iM_orderSum iM_leastOrder rM_often iM_setMany iM_someOf iM_allOf iM_allWeight iM_enoughWeight iM_worthSum iM_firstRest iM_leastDrawn), (arI rM_tape kM_tape 900 fM_tape)] sz) [(oc7 oM niM_thrown rM_tape niM_taped iM_size iM_at iM_end iM_token iM_whole iM_nameSize iM_fault iM_place iM_trouble rM_letters iM_failed iM_hasCourt rM_r rM_fresh rM_told rM_read rM_st rM_undone rM_kept iM_undos iM_images rM_fresher iM_fresherSize iM_scale iM_night rM_heardRow rM_cutRow iM_breaths iM_cutMany iM_allBreaths rM_trial rM_words iM_fewestBreaths iM_orderMany iM_orderSum iM_leastOrder rM_often iM_setMany iM_someOf iM_allOf iM_allWeight iM_enoughWeight iM_worthSum iM_firstRest iM_leastDrawn), (arI rM_tape kM_tape 900 nfM_tape)] [(kM_tape, .int)] t) (va_A [(oc7 oM iM_thrown rM_tape iM_taped iM_size iM_at iM_end iM_token iM_whole iM_nameSize iM_fault iM_place iM_trouble rM_letters iM_failed iM_hasCourt rM_r rM_fresh rM_told rM_read rM_st rM_undone rM_kept iM_undos iM_images rM_fresher iM_fresherSize iM_scale iM_night rM_heardRow rM_cutRow iM_breaths iM_cutMany iM_allBreaths rM_trial rM_words iM_fewestBreaths iM_orderMany iM_orderSum iM_leastOrder rM_often iM_setMany iM_someOf iM_allOf iM_allWeight iM_enoughWeight iM_worthSum iM_firstRest iM_leastDrawn), (arI rM_tape kM_tape 900 fM_tape)] sz)) 0 0 (va_A [(oc7 oM iM_thrown rM_tape iM_taped iM_size iM_at iM_end iM_token iM_whole iM_nameSize iM_fault iM_place iM_trouble rM_letters iM_failed iM_hasCourt rM_r rM_fresh rM_told rM_read rM_st rM_undone rM_kept iM_undos iM_images rM_fresher iM_fresherSize iM_scale iM_night rM_heardRow rM_cutRow iM_breaths iM_cutMany iM_allBreaths rM_trial rM_words iM_fewestBreaths iM_orderMany iM_orderSum iM_leastOrder rM_often iM_setMany iM_someOf iM_allOf iM_allWeight iM_enoughWeight iM_worthSum iM_firstRest iM_leastDrawn), (arI rM_tape kM_tape 900 fM_tape)] sz) := by
  refine Met.ofW (cc := cX7_feed) (maxL := 8) (ret := (some .int)) pnX7 rfl ?_
  intro p e s m args below meth c s₁ B hml hv
  obtain ⟨rfl, hsz, hP, hK, hD0, hE⟩ := hv
  have hx := B.exec
  have hb := B.bytes
  have hr := B.returns
  have hts : ∀ w ∈ wG, w.before ([.ref oM, .int p0, .int p1, .int p2, .int p3, .int p4] : List Value).toArray s = true := fun w h => atoms_spec (ws := Cond.code yX7_feed cX7_feed 8 (some .int) :: wG) B.pre w (List.mem_cons_of_mem _ h)
  have hown : s.vm.findClass RX7 = some m.cls := own_of B.named rfl
  have hlocks := B.notSynchronized
  subst hsz
  have hD := hD0.self (sz := s.heap.size)
  generalize hAe : va_A [(oc7 oM iM_thrown rM_tape iM_taped iM_size iM_at iM_end iM_token iM_whole iM_nameSize iM_fault iM_place iM_trouble rM_letters iM_failed iM_hasCourt rM_r rM_fresh rM_told rM_read rM_st rM_undone rM_kept iM_undos iM_images rM_fresher iM_fresherSize iM_scale iM_night rM_heardRow rM_cutRow iM_breaths iM_cutMany iM_allBreaths rM_trial rM_words iM_fewestBreaths iM_orderMany iM_orderSum iM_leastOrder rM_often iM_setMany iM_someOf iM_allOf iM_allWeight iM_enoughWeight iM_worthSum iM_firstRest iM_leastDrawn), (arI rM_tape kM_tape 900 fM_tape)] s.heap.size = A at hD hE ⊢
  have hA : ∀ q : Nat, s.heap.size ≤ q → A q := fun q h => by rw [← hAe]; exact Or.inr h
  have hS : va_S A s.heap s.heap [] := va_S.rf
  have hl := lv_entry ([.ref oM, .int p0, .int p1, .int p2, .int p3, .int p4]) (n := 8) (Nat.le_of_ble_eq_true rfl)
  rw [lg_entry_eq]
  generalize (lg_sl ([.ref oM, .int p0, .int p1, .int p2, .int p3, .int p4]) ++ List.replicate (8 - (lg_sl ([.ref oM, .int p0, .int p1, .int p2, .int p3, .int p4])).length) Slot.unset).toArray = ls at hl ⊢
  have hl : lv_has ls 8 [(0, .ref oM), (1, .int p0), (2, .int p1), (3, .int p2), (4, .int p3), (5, .int p4)] := hl
  have hG := PX7_feed_eq fM_tape iM_taped p0 p1 p2 p3 p4
  refine lv_aload_n hx hb dX7_feed_0 rfl (lv_at hl 0 rfl) ?_
  refine lv_iconst (v := 0) hx hb dX7_feed_1 (by decide) ?_
  refine va_put (D := (dC, dI)) (ci := 7) (v := .int 0) (ty := .int) (C := RX7) (T := TX7) (N := 48) hx hb hts inX7 tyX7 tyX7_ok nmX7 hown hK hP hD hS 0 rfl rfl 0 (by decide) (hts _ wd_184) (fun _ h9 => h9) rfl (by decide +kernel) rfl rfl (Nat.le_of_ble_eq_true rfl) dX7_feed_2 (fun H locs hP hD hS => ?_)
  obtain ⟨hP, hD⟩ := wl2 (ws' := [(oc7 oM 0 rM_tape iM_taped iM_size iM_at iM_end iM_token iM_whole iM_nameSize iM_fault iM_place iM_trouble rM_letters iM_failed iM_hasCourt rM_r rM_fresh rM_told rM_read rM_st rM_undone rM_kept iM_undos iM_images rM_fresher iM_fresherSize iM_scale iM_night rM_heardRow rM_cutRow iM_breaths iM_cutMany iM_allBreaths rM_trial rM_words iM_fewestBreaths iM_orderMany iM_orderSum iM_leastOrder rM_often iM_setMany iM_someOf iM_allOf iM_allWeight iM_enoughWeight iM_worthSum iM_firstRest iM_leastDrawn), (arI rM_tape kM_tape 900 fM_tape)]) hP hD rfl
  refine lv_aload_n hx hb dX7_feed_5 rfl (lv_at hl 0 rfl) ?_
  refine va_get (D := (dC, dI)) (ci := 7) (v := .int iM_taped) (C := RX7) (T := TX7) (N := 48) hx hb hts inX7 hown hK hP 0 rfl rfl 2 (by decide) (hts _ wd_185) (fun _ h9 => h9) rfl dX7_feed_6 ?_
  refine lv_bipush (v := 20) hx hb dX7_feed_9 (by decide) ?_
  refine lv_iadd hx hb dX7_feed_11 ?_
  refine lv_topi (fun x_6964 ex_6964 => ?_)
  have hG := hG.trans (lt_eq ex_6964)
  have vx_6964 : x_6964.toInt = iM_taped.toInt + 20 := ti_add ex_6964 rfl kc_20 (om_72690fb9 b_iM_taped.1) (om_1954cd07 b_iM_taped.2)
  refine lv_sipush (v := 900) hx hb dX7_feed_12 (by decide) ?_
  refine lv_icmp_le (tgt := 20) hx hb dX7_feed_15 (by decide) (fun c_6965 => ?_) (fun c_6965 => ?_)
  · skip
    have hG := hG.trans (if_pos c_6965)
    have gc_6965 := ti_le c_6965 vx_6964 kc_900
    refine lv_iconst (v := 0) hx hb dX7_feed_20 (by decide) ?_
    refine lv_istore (lv' := [(6, .int 0), (0, .ref oM), (1, .int p0), (2, .int p1), (3, .int p2), (4, .int p3), (5, .int p4)]) hx hb dX7_feed_21 hl (by decide) rfl (fun ls hl => ?_)
    have hl := lv_sub hl (l' := [(6, .int 0), (0, .ref oM), (1, .int p0), (2, .int p1), (3, .int p2), (4, .int p3), (5, .int p4)]) [0, 1, 2, 3, 4, 5, 6] rfl
    have key_n_6969 : ∀ (n_6969 : Nat) (z_6966 : Int32) (z_6967 : Int32) (f_6968 : Nat → Int32) (H : Heap) (locs : List Loc) (ls : Array Slot), (0 ≤ z_6967.toInt ∧ z_6967.toInt ≤ 900) → (0 ≤ z_6966.toInt ∧ z_6966.toInt ≤ 20) → (z_6967.toInt = iM_taped.toInt + z_6966.toInt) → (20 - z_6966.toInt).toNat < n_6969 → (PX7_feed fM_tape iM_taped p0 p1 p2 p3 p4 = HX7_feed_0 p0 p1 p2 p3 p4 n_6969 z_6966 z_6967 f_6968) → va_P (dC, dI) vwCl [(oc7 oM 0 rM_tape z_6967 iM_size iM_at iM_end iM_token iM_whole iM_nameSize iM_fault iM_place iM_trouble rM_letters iM_failed iM_hasCourt rM_r rM_fresh rM_told rM_read rM_st rM_undone rM_kept iM_undos iM_images rM_fresher iM_fresherSize iM_scale iM_night rM_heardRow rM_cutRow iM_breaths iM_cutMany iM_allBreaths rM_trial rM_words iM_fewestBreaths iM_orderMany iM_orderSum iM_leastOrder rM_often iM_setMany iM_someOf iM_allOf iM_allWeight iM_enoughWeight iM_worthSum iM_firstRest iM_leastDrawn), (arI rM_tape kM_tape 900 f_6968)] H → va_D A [(oc7 oM 0 rM_tape z_6967 iM_size iM_at iM_end iM_token iM_whole iM_nameSize iM_fault iM_place iM_trouble rM_letters iM_failed iM_hasCourt rM_r rM_fresh rM_told rM_read rM_st rM_undone rM_kept iM_undos iM_images rM_fresher iM_fresherSize iM_scale iM_night rM_heardRow rM_cutRow iM_breaths iM_cutMany iM_allBreaths rM_trial rM_words iM_fewestBreaths iM_orderMany iM_orderSum iM_leastOrder rM_often iM_setMany iM_someOf iM_allOf iM_allWeight iM_enoughWeight iM_worthSum iM_firstRest iM_leastDrawn), (arI rM_tape kM_tape 900 f_6968)] → va_S A s.heap H locs → lv_has ls 8 [(6, .int z_6966), (0, .ref oM), (1, .int p0), (2, .int p1), (3, .int p2), (4, .int p3), (5, .int p4)] → W p l e (headSpec (Cond.code yX7_feed cX7_feed 8 (some .int) :: wG) ({ frames := 0, cells := 0, slots := 0, locals := 0 })).room s m ([.ref oM, .int p0, .int p1, .int p2, .int p3, .int p4] : List Value).toArray below meth c H locs 0 0 (MQ below (va_Qi (fun (r : Int32) (u : Nat) => (True ∧ ((880 < iM_taped.toInt ∧ r.toInt = -1) ∨ (iM_taped.toInt ≤ 880 ∧ r.toInt = iM_taped.toInt + 20))) ∧ r = Int32.ofNat u) (fun (u : Nat) (t : State) => ∃ (niM_thrown : Int32) (niM_taped : Int32) (nfM_tape : Nat → Int32), (0 ≤ niM_thrown.toInt ∧ niM_thrown.toInt ≤ 0) ∧ (0 ≤ niM_taped.toInt ∧ niM_taped.toInt ≤ 900) ∧ ((880 < iM_taped.toInt ∧ niM_taped.toInt = iM_taped.toInt) ∨ (iM_taped.toInt ≤ 880 ∧ niM_taped.toInt = iM_taped.toInt + 20)) ∧ (PX7_feed fM_tape iM_taped p0 p1 p2 p3 p4 = (Int32.ofNat u, niM_thrown, niM_taped, nfM_tape)) ∧ Bw dC dI A [(oc7 oM niM_thrown rM_tape niM_taped iM_size iM_at iM_end iM_token iM_whole iM_nameSize iM_fault iM_place iM_trouble rM_letters iM_failed iM_hasCourt rM_r rM_fresh rM_told rM_read rM_st rM_undone rM_kept iM_undos iM_images rM_fresher iM_fresherSize iM_scale iM_night rM_heardRow rM_cutRow iM_breaths iM_cutMany iM_allBreaths rM_trial rM_words iM_fewestBreaths iM_orderMany iM_orderSum iM_leastOrder rM_often iM_setMany iM_someOf iM_allOf iM_allWeight iM_enoughWeight iM_worthSum iM_firstRest iM_leastDrawn), (arI rM_tape kM_tape 900 nfM_tape)] [(kM_tape, .int)] t) A) ([.ref oM, .int p0, .int p1, .int p2, .int p3, .int p4] : List Value).toArray s 0 0 A) (F0 m 23 ls []) := by
      intro n_6969
      induction n_6969 with
      | zero => intro z_6966 z_6967 f_6968 H locs ls b_z_6967 hi0_n_6969 hi1_n_6969 hm; exact absurd hm (Nat.not_lt_zero _)
      | succ n_6969 ih_n_6969 =>
        intro z_6966 z_6967 f_6968 H locs ls b_z_6967 hi0_n_6969 hi1_n_6969 hm_n_6969 hG hP hD hS hl
        have hG := hG.trans (HX7_feed_0_eq _ _ _ _ _ _ _ _ _)
        refine lv_iload hx hb dX7_feed_23 (lv_at hl 0 rfl) ?_
        refine lv_bipush (v := 20) hx hb dX7_feed_25 (by decide) ?_
        refine lv_icmp_ge (tgt := 120) hx hb dX7_feed_27 (by decide) (fun c_6970 => ?_) (fun c_6970 => ?_)
        · skip
          have hG := hG.trans (if_pos c_6970)
          have gc_6970 := ti_le c_6970 kc_20 rfl
          refine lv_aload_n hx hb dX7_feed_120 rfl (lv_at hl 1 rfl) ?_
          refine va_get (D := (dC, dI)) (ci := 7) (v := .int z_6967) (C := RX7) (T := TX7) (N := 48) hx hb hts inX7 hown hK hP 0 rfl rfl 2 (by decide) (hts _ wd_185) (fun _ h9 => h9) rfl dX7_feed_121 ?_
          exact wq_i hx hb hr (cI z_6967) ⟨⟨trivial, (by first | omega | assumption)⟩, (cI_of z_6967)⟩ (fun t ht hW => ⟨0, z_6967, f_6968, (by decide), b_z_6967, (by have q0 := kc_0; omega), (cI_tup hG), Bw.to hP hD hK ht hW⟩) hS dX7_feed_124 hlocks
        · skip
          have hG := hG.trans (if_neg c_6970)
          have gc_6970 := ti_nle c_6970 kc_20 rfl
          refine lv_iload hx hb dX7_feed_30 (lv_at hl 0 rfl) ?_
          refine lv_iconst (v := 4) hx hb dX7_feed_32 (by decide) ?_
          refine lv_icmp_ge (tgt := 40) hx hb dX7_feed_33 (by decide) (fun c_6971 => ?_) (fun c_6971 => ?_)
          · skip
            have hG := hG.trans (if_pos c_6971)
            have gc_6971 := ti_le c_6971 kc_4 rfl
            refine lv_iload hx hb dX7_feed_40 (lv_at hl 0 rfl) ?_
            refine lv_bipush (v := 8) hx hb dX7_feed_42 (by decide) ?_
            refine lv_icmp_ge (tgt := 51) hx hb dX7_feed_44 (by decide) (fun c_6972 => ?_) (fun c_6972 => ?_)
            · skip
              have hG := hG.trans (if_pos c_6972)
              have gc_6972 := ti_le c_6972 kc_8 rfl
              refine lv_iload hx hb dX7_feed_51 (lv_at hl 0 rfl) ?_
              refine lv_bipush (v := 12) hx hb dX7_feed_53 (by decide) ?_
              refine lv_icmp_ge (tgt := 62) hx hb dX7_feed_55 (by decide) (fun c_6973 => ?_) (fun c_6973 => ?_)
              · skip
                have hG := hG.trans (if_pos c_6973)
                have gc_6973 := ti_le c_6973 kc_12 rfl
                refine lv_iload hx hb dX7_feed_62 (lv_at hl 0 rfl) ?_
                refine lv_bipush (v := 16) hx hb dX7_feed_64 (by decide) ?_
                refine lv_icmp_ge (tgt := 74) hx hb dX7_feed_66 (by decide) (fun c_6974 => ?_) (fun c_6974 => ?_)
                · skip
                  have hG := hG.trans (if_pos c_6974)
                  have gc_6974 := ti_le c_6974 kc_16 rfl
                  refine lv_iload hx hb dX7_feed_74 (lv_at hl 6 rfl) ?_
                  refine lv_istore (lv' := [(7, .int p4), (6, .int z_6966), (0, .ref oM), (1, .int p0), (2, .int p1), (3, .int p2), (4, .int p3), (5, .int p4)]) hx hb dX7_feed_76 hl (by decide) rfl (fun ls hl => ?_)
                  refine lv_aload_n hx hb dX7_feed_78 rfl (lv_at hl 2 rfl) ?_
                  refine va_get (D := (dC, dI)) (ci := 7) (v := .ref rM_tape) (C := RX7) (T := TX7) (N := 48) hx hb hts inX7 hown hK hP 0 rfl rfl 1 (by decide) (hts _ wd_152) (fun _ h9 => h9) rfl dX7_feed_79 ?_
                  refine lv_aload_n hx hb dX7_feed_82 rfl (lv_at hl 2 rfl) ?_
                  refine va_get (D := (dC, dI)) (ci := 7) (v := .int z_6967) (C := RX7) (T := TX7) (N := 48) hx hb hts inX7 hown hK hP 0 rfl rfl 2 (by decide) (hts _ wd_185) (fun _ h9 => h9) rfl dX7_feed_83 ?_
                  refine lv_iload hx hb dX7_feed_86 (lv_at hl 0 rfl) ?_
                  refine lv_bipush (v := 24) hx hb dX7_feed_88 (by decide) ?_
                  refine lv_bipush (v := 8) hx hb dX7_feed_90 (by decide) ?_
                  refine lv_iload hx hb dX7_feed_92 (lv_at hl 1 rfl) ?_
                  refine lv_iconst (v := 4) hx hb dX7_feed_94 (by decide) ?_
                  refine lv_irem hx hb dX7_feed_95 (by decide) ?_
                  refine lv_topi (fun x_6975 ex_6975 => ?_)
                  have hG := hG.trans (lt_eq ex_6975)
                  have qx_6975 := ti_rem ex_6975 rfl kc_4 hi0_n_6969.1 (by decide)
                  have Qx_6975 := ti_remE ex_6975 rfl kc_4 hi0_n_6969.1 (by decide)
                  refine lv_imul hx hb dX7_feed_96 ?_
                  refine lv_topi (fun x_6976 ex_6976 => ?_)
                  have hG := hG.trans (lt_eq ex_6976)
                  have vx_6976 : x_6976.toInt = 8 * x_6975.toInt := ti_mul ex_6976 kc_8 rfl (om_894b99c2 qx_6975.1) (om_626b9a18 qx_6975.2.1)
                  refine lv_isub hx hb dX7_feed_97 ?_
                  refine lv_topi (fun x_6977 ex_6977 => ?_)
                  have hG := hG.trans (lt_eq ex_6977)
                  have vx_6977 : x_6977.toInt = (-8) * x_6975.toInt + 24 := om_152fbd22 (ti_sub ex_6977 kc_24 vx_6976 (om_aa692474 qx_6975.2.1) (om_bd3e8f22 qx_6975.1))
                  refine lv_ishr hx hb dX7_feed_98 ?_
                  refine lv_topi (fun x_6978 ex_6978 => ?_)
                  have hG := hG.trans (lt_eq ex_6978)
                  refine lv_sipush (v := 255) hx hb dX7_feed_99 (by decide) ?_
                  refine lv_iand hx hb dX7_feed_102 ?_
                  refine lv_topi (fun x_6979 ex_6979 => ?_)
                  have hG := hG.trans (lt_eq ex_6979)
                  refine va_iast hx hb hK hP hD hS 1 0 rfl rfl (ti_in rfl b_z_6967.1 (om_53efa0b0 gc_6965 hi1_n_6969 gc_6970)) dX7_feed_103 (fun H locs hP hD hS => ?_)
                  obtain ⟨f_6981, ef_6981⟩ : ∃ g : Nat → Int32, g = upd f_6968 z_6967.toNatClampNeg x_6979 := ⟨_, rfl⟩
                  rw [← ef_6981] at hP hD
                  have hG := hG.trans (lt_eq ef_6981)
                  obtain ⟨hP, hD⟩ := wl2 (ws' := [(oc7 oM 0 rM_tape z_6967 iM_size iM_at iM_end iM_token iM_whole iM_nameSize iM_fault iM_place iM_trouble rM_letters iM_failed iM_hasCourt rM_r rM_fresh rM_told rM_read rM_st rM_undone rM_kept iM_undos iM_images rM_fresher iM_fresherSize iM_scale iM_night rM_heardRow rM_cutRow iM_breaths iM_cutMany iM_allBreaths rM_trial rM_words iM_fewestBreaths iM_orderMany iM_orderSum iM_leastOrder rM_often iM_setMany iM_someOf iM_allOf iM_allWeight iM_enoughWeight iM_worthSum iM_firstRest iM_leastDrawn), (arI rM_tape kM_tape 900 f_6981)]) hP hD rfl
                  refine lv_aload_n hx hb dX7_feed_104 rfl (lv_at hl 2 rfl) ?_
                  refine lv_dup hx hb dX7_feed_105 rfl ?_
                  refine va_get (D := (dC, dI)) (ci := 7) (v := .int z_6967) (C := RX7) (T := TX7) (N := 48) hx hb hts inX7 hown hK hP 0 rfl rfl 2 (by decide) (hts _ wd_185) (fun _ h9 => h9) rfl dX7_feed_106 ?_
                  refine lv_iconst (v := 1) hx hb dX7_feed_109 (by decide) ?_
                  refine lv_iadd hx hb dX7_feed_110 ?_
                  refine lv_topi (fun x_6982 ex_6982 => ?_)
                  have hG := hG.trans (lt_eq ex_6982)
                  have vx_6982 : x_6982.toInt = z_6967.toInt + 1 := ti_add ex_6982 rfl kc_1 (om_4e4fce7e b_z_6967.1) (om_a4907767 b_z_6967.2)
                  refine va_put (D := (dC, dI)) (ci := 7) (v := .int x_6982) (ty := .int) (C := RX7) (T := TX7) (N := 48) hx hb hts inX7 tyX7 tyX7_ok nmX7 hown hK hP hD hS 0 rfl rfl 2 (by decide) (hts _ wd_185) (fun _ h9 => h9) rfl (by decide +kernel) rfl rfl (Nat.le_of_ble_eq_true rfl) dX7_feed_111 (fun H locs hP hD hS => ?_)
                  obtain ⟨hP, hD⟩ := wl2 (ws' := [(oc7 oM 0 rM_tape x_6982 iM_size iM_at iM_end iM_token iM_whole iM_nameSize iM_fault iM_place iM_trouble rM_letters iM_failed iM_hasCourt rM_r rM_fresh rM_told rM_read rM_st rM_undone rM_kept iM_undos iM_images rM_fresher iM_fresherSize iM_scale iM_night rM_heardRow rM_cutRow iM_breaths iM_cutMany iM_allBreaths rM_trial rM_words iM_fewestBreaths iM_orderMany iM_orderSum iM_leastOrder rM_often iM_setMany iM_someOf iM_allOf iM_allWeight iM_enoughWeight iM_worthSum iM_firstRest iM_leastDrawn), (arI rM_tape kM_tape 900 f_6981)]) hP hD rfl
                  obtain ⟨x_6983, ex_6983⟩ : ∃ z : Int32, z = z_6966 + Int32.ofInt 1 := ⟨_, rfl⟩
                  have hG := hG.trans (lt_eq ex_6983)
                  have vx_6983 : x_6983.toInt = z_6966.toInt + 1 := ti_add (y := 1) ex_6983 rfl kc_1 (om_4e4fce7e hi0_n_6969.1) (om_575634be hi0_n_6969.2)
                  refine lv_iinc (v := x_6983) (lv' := [(6, .int x_6983), (7, .int p4), (0, .ref oM), (1, .int p0), (2, .int p1), (3, .int p2), (4, .int p3), (5, .int p4)]) hx hb dX7_feed_114 hl (k := 1) rfl ex_6983.symm (by decide) rfl (fun ls hl => ?_)
                  refine lv_goto (tgt := 23) hx hb dX7_feed_117 (by decide) ?_
                  exact ih_n_6969 x_6983 x_6982 f_6981 _ _ _ ⟨(om_83b90de5 b_z_6967.1 vx_6982), (om_80749fdb gc_6965 hi1_n_6969 gc_6970 vx_6982)⟩ ⟨(om_83b90de5 hi0_n_6969.1 vx_6983), (om_63cf9d31 gc_6970 vx_6983)⟩ (om_14f5635e hi1_n_6969 vx_6982 vx_6983) (ms_lt hm_n_6969 (om_91c3f935 vx_6983) (om_49eecdc2 gc_6970)) hG hP hD hS (lv_sub hl [0, 2, 3, 4, 5, 6, 7] rfl)
                · skip
                  have hG := hG.trans (if_neg c_6974)
                  have gc_6974 := ti_nle c_6974 kc_16 rfl
                  refine lv_iload hx hb dX7_feed_69 (lv_at hl 5 rfl) ?_
                  refine lv_goto (tgt := 76) hx hb dX7_feed_71 (by decide) ?_
                  refine lv_istore (lv' := [(7, .int p3), (6, .int z_6966), (0, .ref oM), (1, .int p0), (2, .int p1), (3, .int p2), (4, .int p3), (5, .int p4)]) hx hb dX7_feed_76 hl (by decide) rfl (fun ls hl => ?_)
                  refine lv_aload_n hx hb dX7_feed_78 rfl (lv_at hl 2 rfl) ?_
                  refine va_get (D := (dC, dI)) (ci := 7) (v := .ref rM_tape) (C := RX7) (T := TX7) (N := 48) hx hb hts inX7 hown hK hP 0 rfl rfl 1 (by decide) (hts _ wd_152) (fun _ h9 => h9) rfl dX7_feed_79 ?_
                  refine lv_aload_n hx hb dX7_feed_82 rfl (lv_at hl 2 rfl) ?_
                  refine va_get (D := (dC, dI)) (ci := 7) (v := .int z_6967) (C := RX7) (T := TX7) (N := 48) hx hb hts inX7 hown hK hP 0 rfl rfl 2 (by decide) (hts _ wd_185) (fun _ h9 => h9) rfl dX7_feed_83 ?_
                  refine lv_iload hx hb dX7_feed_86 (lv_at hl 0 rfl) ?_
                  refine lv_bipush (v := 24) hx hb dX7_feed_88 (by decide) ?_
                  refine lv_bipush (v := 8) hx hb dX7_feed_90 (by decide) ?_
                  refine lv_iload hx hb dX7_feed_92 (lv_at hl 1 rfl) ?_
                  refine lv_iconst (v := 4) hx hb dX7_feed_94 (by decide) ?_
                  refine lv_irem hx hb dX7_feed_95 (by decide) ?_
                  refine lv_topi (fun x_6984 ex_6984 => ?_)
                  have hG := hG.trans (lt_eq ex_6984)
                  have qx_6984 := ti_rem ex_6984 rfl kc_4 hi0_n_6969.1 (by decide)
                  have Qx_6984 := ti_remE ex_6984 rfl kc_4 hi0_n_6969.1 (by decide)
                  refine lv_imul hx hb dX7_feed_96 ?_
                  refine lv_topi (fun x_6985 ex_6985 => ?_)
                  have hG := hG.trans (lt_eq ex_6985)
                  have vx_6985 : x_6985.toInt = 8 * x_6984.toInt := ti_mul ex_6985 kc_8 rfl (om_894b99c2 qx_6984.1) (om_626b9a18 qx_6984.2.1)
                  refine lv_isub hx hb dX7_feed_97 ?_
                  refine lv_topi (fun x_6986 ex_6986 => ?_)
                  have hG := hG.trans (lt_eq ex_6986)
                  have vx_6986 : x_6986.toInt = (-8) * x_6984.toInt + 24 := om_152fbd22 (ti_sub ex_6986 kc_24 vx_6985 (om_aa692474 qx_6984.2.1) (om_bd3e8f22 qx_6984.1))
                  refine lv_ishr hx hb dX7_feed_98 ?_
                  refine lv_topi (fun x_6987 ex_6987 => ?_)
                  have hG := hG.trans (lt_eq ex_6987)
                  refine lv_sipush (v := 255) hx hb dX7_feed_99 (by decide) ?_
                  refine lv_iand hx hb dX7_feed_102 ?_
                  refine lv_topi (fun x_6988 ex_6988 => ?_)
                  have hG := hG.trans (lt_eq ex_6988)
                  refine va_iast hx hb hK hP hD hS 1 0 rfl rfl (ti_in rfl b_z_6967.1 (om_53efa0b0 gc_6965 hi1_n_6969 gc_6970)) dX7_feed_103 (fun H locs hP hD hS => ?_)
                  obtain ⟨f_6990, ef_6990⟩ : ∃ g : Nat → Int32, g = upd f_6968 z_6967.toNatClampNeg x_6988 := ⟨_, rfl⟩
                  rw [← ef_6990] at hP hD
                  have hG := hG.trans (lt_eq ef_6990)
                  obtain ⟨hP, hD⟩ := wl2 (ws' := [(oc7 oM 0 rM_tape z_6967 iM_size iM_at iM_end iM_token iM_whole iM_nameSize iM_fault iM_place iM_trouble rM_letters iM_failed iM_hasCourt rM_r rM_fresh rM_told rM_read rM_st rM_undone rM_kept iM_undos iM_images rM_fresher iM_fresherSize iM_scale iM_night rM_heardRow rM_cutRow iM_breaths iM_cutMany iM_allBreaths rM_trial rM_words iM_fewestBreaths iM_orderMany iM_orderSum iM_leastOrder rM_often iM_setMany iM_someOf iM_allOf iM_allWeight iM_enoughWeight iM_worthSum iM_firstRest iM_leastDrawn), (arI rM_tape kM_tape 900 f_6990)]) hP hD rfl
                  refine lv_aload_n hx hb dX7_feed_104 rfl (lv_at hl 2 rfl) ?_
                  refine lv_dup hx hb dX7_feed_105 rfl ?_
                  refine va_get (D := (dC, dI)) (ci := 7) (v := .int z_6967) (C := RX7) (T := TX7) (N := 48) hx hb hts inX7 hown hK hP 0 rfl rfl 2 (by decide) (hts _ wd_185) (fun _ h9 => h9) rfl dX7_feed_106 ?_
                  refine lv_iconst (v := 1) hx hb dX7_feed_109 (by decide) ?_
                  refine lv_iadd hx hb dX7_feed_110 ?_
                  refine lv_topi (fun x_6991 ex_6991 => ?_)
                  have hG := hG.trans (lt_eq ex_6991)
                  have vx_6991 : x_6991.toInt = z_6967.toInt + 1 := ti_add ex_6991 rfl kc_1 (om_4e4fce7e b_z_6967.1) (om_a4907767 b_z_6967.2)
                  refine va_put (D := (dC, dI)) (ci := 7) (v := .int x_6991) (ty := .int) (C := RX7) (T := TX7) (N := 48) hx hb hts inX7 tyX7 tyX7_ok nmX7 hown hK hP hD hS 0 rfl rfl 2 (by decide) (hts _ wd_185) (fun _ h9 => h9) rfl (by decide +kernel) rfl rfl (Nat.le_of_ble_eq_true rfl) dX7_feed_111 (fun H locs hP hD hS => ?_)
                  obtain ⟨hP, hD⟩ := wl2 (ws' := [(oc7 oM 0 rM_tape x_6991 iM_size iM_at iM_end iM_token iM_whole iM_nameSize iM_fault iM_place iM_trouble rM_letters iM_failed iM_hasCourt rM_r rM_fresh rM_told rM_read rM_st rM_undone rM_kept iM_undos iM_images rM_fresher iM_fresherSize iM_scale iM_night rM_heardRow rM_cutRow iM_breaths iM_cutMany iM_allBreaths rM_trial rM_words iM_fewestBreaths iM_orderMany iM_orderSum iM_leastOrder rM_often iM_setMany iM_someOf iM_allOf iM_allWeight iM_enoughWeight iM_worthSum iM_firstRest iM_leastDrawn), (arI rM_tape kM_tape 900 f_6990)]) hP hD rfl
                  obtain ⟨x_6992, ex_6992⟩ : ∃ z : Int32, z = z_6966 + Int32.ofInt 1 := ⟨_, rfl⟩
                  have hG := hG.trans (lt_eq ex_6992)
                  have vx_6992 : x_6992.toInt = z_6966.toInt + 1 := ti_add (y := 1) ex_6992 rfl kc_1 (om_4e4fce7e hi0_n_6969.1) (om_575634be hi0_n_6969.2)
                  refine lv_iinc (v := x_6992) (lv' := [(6, .int x_6992), (7, .int p3), (0, .ref oM), (1, .int p0), (2, .int p1), (3, .int p2), (4, .int p3), (5, .int p4)]) hx hb dX7_feed_114 hl (k := 1) rfl ex_6992.symm (by decide) rfl (fun ls hl => ?_)
                  refine lv_goto (tgt := 23) hx hb dX7_feed_117 (by decide) ?_
                  exact ih_n_6969 x_6992 x_6991 f_6990 _ _ _ ⟨(om_83b90de5 b_z_6967.1 vx_6991), (om_80749fdb gc_6965 hi1_n_6969 gc_6970 vx_6991)⟩ ⟨(om_83b90de5 hi0_n_6969.1 vx_6992), (om_63cf9d31 gc_6970 vx_6992)⟩ (om_14f5635e hi1_n_6969 vx_6991 vx_6992) (ms_lt hm_n_6969 (om_91c3f935 vx_6992) (om_49eecdc2 gc_6970)) hG hP hD hS (lv_sub hl [0, 2, 3, 4, 5, 6, 7] rfl)
              · skip
                have hG := hG.trans (if_neg c_6973)
                have gc_6973 := ti_nle c_6973 kc_12 rfl
                refine lv_iload_n hx hb dX7_feed_58 rfl (lv_at hl 4 rfl) ?_
                refine lv_goto (tgt := 76) hx hb dX7_feed_59 (by decide) ?_
                refine lv_istore (lv' := [(7, .int p2), (6, .int z_6966), (0, .ref oM), (1, .int p0), (2, .int p1), (3, .int p2), (4, .int p3), (5, .int p4)]) hx hb dX7_feed_76 hl (by decide) rfl (fun ls hl => ?_)
                refine lv_aload_n hx hb dX7_feed_78 rfl (lv_at hl 2 rfl) ?_
                refine va_get (D := (dC, dI)) (ci := 7) (v := .ref rM_tape) (C := RX7) (T := TX7) (N := 48) hx hb hts inX7 hown hK hP 0 rfl rfl 1 (by decide) (hts _ wd_152) (fun _ h9 => h9) rfl dX7_feed_79 ?_
                refine lv_aload_n hx hb dX7_feed_82 rfl (lv_at hl 2 rfl) ?_
                refine va_get (D := (dC, dI)) (ci := 7) (v := .int z_6967) (C := RX7) (T := TX7) (N := 48) hx hb hts inX7 hown hK hP 0 rfl rfl 2 (by decide) (hts _ wd_185) (fun _ h9 => h9) rfl dX7_feed_83 ?_
                refine lv_iload hx hb dX7_feed_86 (lv_at hl 0 rfl) ?_
                refine lv_bipush (v := 24) hx hb dX7_feed_88 (by decide) ?_
                refine lv_bipush (v := 8) hx hb dX7_feed_90 (by decide) ?_
                refine lv_iload hx hb dX7_feed_92 (lv_at hl 1 rfl) ?_
                refine lv_iconst (v := 4) hx hb dX7_feed_94 (by decide) ?_
                refine lv_irem hx hb dX7_feed_95 (by decide) ?_
                refine lv_topi (fun x_6993 ex_6993 => ?_)
                have hG := hG.trans (lt_eq ex_6993)
                have qx_6993 := ti_rem ex_6993 rfl kc_4 hi0_n_6969.1 (by decide)
                have Qx_6993 := ti_remE ex_6993 rfl kc_4 hi0_n_6969.1 (by decide)
                refine lv_imul hx hb dX7_feed_96 ?_
                refine lv_topi (fun x_6994 ex_6994 => ?_)
                have hG := hG.trans (lt_eq ex_6994)
                have vx_6994 : x_6994.toInt = 8 * x_6993.toInt := ti_mul ex_6994 kc_8 rfl (om_894b99c2 qx_6993.1) (om_626b9a18 qx_6993.2.1)
                refine lv_isub hx hb dX7_feed_97 ?_
                refine lv_topi (fun x_6995 ex_6995 => ?_)
                have hG := hG.trans (lt_eq ex_6995)
                have vx_6995 : x_6995.toInt = (-8) * x_6993.toInt + 24 := om_152fbd22 (ti_sub ex_6995 kc_24 vx_6994 (om_aa692474 qx_6993.2.1) (om_bd3e8f22 qx_6993.1))
                refine lv_ishr hx hb dX7_feed_98 ?_
                refine lv_topi (fun x_6996 ex_6996 => ?_)
                have hG := hG.trans (lt_eq ex_6996)
                refine lv_sipush (v := 255) hx hb dX7_feed_99 (by decide) ?_
                refine lv_iand hx hb dX7_feed_102 ?_
                refine lv_topi (fun x_6997 ex_6997 => ?_)
                have hG := hG.trans (lt_eq ex_6997)
                refine va_iast hx hb hK hP hD hS 1 0 rfl rfl (ti_in rfl b_z_6967.1 (om_53efa0b0 gc_6965 hi1_n_6969 gc_6970)) dX7_feed_103 (fun H locs hP hD hS => ?_)
                obtain ⟨f_6999, ef_6999⟩ : ∃ g : Nat → Int32, g = upd f_6968 z_6967.toNatClampNeg x_6997 := ⟨_, rfl⟩
                rw [← ef_6999] at hP hD
                have hG := hG.trans (lt_eq ef_6999)
                obtain ⟨hP, hD⟩ := wl2 (ws' := [(oc7 oM 0 rM_tape z_6967 iM_size iM_at iM_end iM_token iM_whole iM_nameSize iM_fault iM_place iM_trouble rM_letters iM_failed iM_hasCourt rM_r rM_fresh rM_told rM_read rM_st rM_undone rM_kept iM_undos iM_images rM_fresher iM_fresherSize iM_scale iM_night rM_heardRow rM_cutRow iM_breaths iM_cutMany iM_allBreaths rM_trial rM_words iM_fewestBreaths iM_orderMany iM_orderSum iM_leastOrder rM_often iM_setMany iM_someOf iM_allOf iM_allWeight iM_enoughWeight iM_worthSum iM_firstRest iM_leastDrawn), (arI rM_tape kM_tape 900 f_6999)]) hP hD rfl
                refine lv_aload_n hx hb dX7_feed_104 rfl (lv_at hl 2 rfl) ?_
                refine lv_dup hx hb dX7_feed_105 rfl ?_
                refine va_get (D := (dC, dI)) (ci := 7) (v := .int z_6967) (C := RX7) (T := TX7) (N := 48) hx hb hts inX7 hown hK hP 0 rfl rfl 2 (by decide) (hts _ wd_185) (fun _ h9 => h9) rfl dX7_feed_106 ?_
                refine lv_iconst (v := 1) hx hb dX7_feed_109 (by decide) ?_
                refine lv_iadd hx hb dX7_feed_110 ?_
                refine lv_topi (fun x_7000 ex_7000 => ?_)
                have hG := hG.trans (lt_eq ex_7000)
                have vx_7000 : x_7000.toInt = z_6967.toInt + 1 := ti_add ex_7000 rfl kc_1 (om_4e4fce7e b_z_6967.1) (om_a4907767 b_z_6967.2)
                refine va_put (D := (dC, dI)) (ci := 7) (v := .int x_7000) (ty := .int) (C := RX7) (T := TX7) (N := 48) hx hb hts inX7 tyX7 tyX7_ok nmX7 hown hK hP hD hS 0 rfl rfl 2 (by decide) (hts _ wd_185) (fun _ h9 => h9) rfl (by decide +kernel) rfl rfl (Nat.le_of_ble_eq_true rfl) dX7_feed_111 (fun H locs hP hD hS => ?_)
                obtain ⟨hP, hD⟩ := wl2 (ws' := [(oc7 oM 0 rM_tape x_7000 iM_size iM_at iM_end iM_token iM_whole iM_nameSize iM_fault iM_place iM_trouble rM_letters iM_failed iM_hasCourt rM_r rM_fresh rM_told rM_read rM_st rM_undone rM_kept iM_undos iM_images rM_fresher iM_fresherSize iM_scale iM_night rM_heardRow rM_cutRow iM_breaths iM_cutMany iM_allBreaths rM_trial rM_words iM_fewestBreaths iM_orderMany iM_orderSum iM_leastOrder rM_often iM_setMany iM_someOf iM_allOf iM_allWeight iM_enoughWeight iM_worthSum iM_firstRest iM_leastDrawn), (arI rM_tape kM_tape 900 f_6999)]) hP hD rfl
                obtain ⟨x_7001, ex_7001⟩ : ∃ z : Int32, z = z_6966 + Int32.ofInt 1 := ⟨_, rfl⟩
                have hG := hG.trans (lt_eq ex_7001)
                have vx_7001 : x_7001.toInt = z_6966.toInt + 1 := ti_add (y := 1) ex_7001 rfl kc_1 (om_4e4fce7e hi0_n_6969.1) (om_575634be hi0_n_6969.2)
                refine lv_iinc (v := x_7001) (lv' := [(6, .int x_7001), (7, .int p2), (0, .ref oM), (1, .int p0), (2, .int p1), (3, .int p2), (4, .int p3), (5, .int p4)]) hx hb dX7_feed_114 hl (k := 1) rfl ex_7001.symm (by decide) rfl (fun ls hl => ?_)
                refine lv_goto (tgt := 23) hx hb dX7_feed_117 (by decide) ?_
                exact ih_n_6969 x_7001 x_7000 f_6999 _ _ _ ⟨(om_83b90de5 b_z_6967.1 vx_7000), (om_80749fdb gc_6965 hi1_n_6969 gc_6970 vx_7000)⟩ ⟨(om_83b90de5 hi0_n_6969.1 vx_7001), (om_63cf9d31 gc_6970 vx_7001)⟩ (om_14f5635e hi1_n_6969 vx_7000 vx_7001) (ms_lt hm_n_6969 (om_91c3f935 vx_7001) (om_49eecdc2 gc_6970)) hG hP hD hS (lv_sub hl [0, 2, 3, 4, 5, 6, 7] rfl)
            · skip
              have hG := hG.trans (if_neg c_6972)
              have gc_6972 := ti_nle c_6972 kc_8 rfl
              refine lv_iload_n hx hb dX7_feed_47 rfl (lv_at hl 3 rfl) ?_
              refine lv_goto (tgt := 76) hx hb dX7_feed_48 (by decide) ?_
              refine lv_istore (lv' := [(7, .int p1), (6, .int z_6966), (0, .ref oM), (1, .int p0), (2, .int p1), (3, .int p2), (4, .int p3), (5, .int p4)]) hx hb dX7_feed_76 hl (by decide) rfl (fun ls hl => ?_)
              refine lv_aload_n hx hb dX7_feed_78 rfl (lv_at hl 2 rfl) ?_
              refine va_get (D := (dC, dI)) (ci := 7) (v := .ref rM_tape) (C := RX7) (T := TX7) (N := 48) hx hb hts inX7 hown hK hP 0 rfl rfl 1 (by decide) (hts _ wd_152) (fun _ h9 => h9) rfl dX7_feed_79 ?_
              refine lv_aload_n hx hb dX7_feed_82 rfl (lv_at hl 2 rfl) ?_
              refine va_get (D := (dC, dI)) (ci := 7) (v := .int z_6967) (C := RX7) (T := TX7) (N := 48) hx hb hts inX7 hown hK hP 0 rfl rfl 2 (by decide) (hts _ wd_185) (fun _ h9 => h9) rfl dX7_feed_83 ?_
              refine lv_iload hx hb dX7_feed_86 (lv_at hl 0 rfl) ?_
              refine lv_bipush (v := 24) hx hb dX7_feed_88 (by decide) ?_
              refine lv_bipush (v := 8) hx hb dX7_feed_90 (by decide) ?_
              refine lv_iload hx hb dX7_feed_92 (lv_at hl 1 rfl) ?_
              refine lv_iconst (v := 4) hx hb dX7_feed_94 (by decide) ?_
              refine lv_irem hx hb dX7_feed_95 (by decide) ?_
              refine lv_topi (fun x_7002 ex_7002 => ?_)
              have hG := hG.trans (lt_eq ex_7002)
              have qx_7002 := ti_rem ex_7002 rfl kc_4 hi0_n_6969.1 (by decide)
              have Qx_7002 := ti_remE ex_7002 rfl kc_4 hi0_n_6969.1 (by decide)
              refine lv_imul hx hb dX7_feed_96 ?_
              refine lv_topi (fun x_7003 ex_7003 => ?_)
              have hG := hG.trans (lt_eq ex_7003)
              have vx_7003 : x_7003.toInt = 8 * x_7002.toInt := ti_mul ex_7003 kc_8 rfl (om_894b99c2 qx_7002.1) (om_626b9a18 qx_7002.2.1)
              refine lv_isub hx hb dX7_feed_97 ?_
              refine lv_topi (fun x_7004 ex_7004 => ?_)
              have hG := hG.trans (lt_eq ex_7004)
              have vx_7004 : x_7004.toInt = (-8) * x_7002.toInt + 24 := om_152fbd22 (ti_sub ex_7004 kc_24 vx_7003 (om_aa692474 qx_7002.2.1) (om_bd3e8f22 qx_7002.1))
              refine lv_ishr hx hb dX7_feed_98 ?_
              refine lv_topi (fun x_7005 ex_7005 => ?_)
              have hG := hG.trans (lt_eq ex_7005)
              refine lv_sipush (v := 255) hx hb dX7_feed_99 (by decide) ?_
              refine lv_iand hx hb dX7_feed_102 ?_
              refine lv_topi (fun x_7006 ex_7006 => ?_)
              have hG := hG.trans (lt_eq ex_7006)
              refine va_iast hx hb hK hP hD hS 1 0 rfl rfl (ti_in rfl b_z_6967.1 (om_53efa0b0 gc_6965 hi1_n_6969 gc_6970)) dX7_feed_103 (fun H locs hP hD hS => ?_)
              obtain ⟨f_7008, ef_7008⟩ : ∃ g : Nat → Int32, g = upd f_6968 z_6967.toNatClampNeg x_7006 := ⟨_, rfl⟩
              rw [← ef_7008] at hP hD
              have hG := hG.trans (lt_eq ef_7008)
              obtain ⟨hP, hD⟩ := wl2 (ws' := [(oc7 oM 0 rM_tape z_6967 iM_size iM_at iM_end iM_token iM_whole iM_nameSize iM_fault iM_place iM_trouble rM_letters iM_failed iM_hasCourt rM_r rM_fresh rM_told rM_read rM_st rM_undone rM_kept iM_undos iM_images rM_fresher iM_fresherSize iM_scale iM_night rM_heardRow rM_cutRow iM_breaths iM_cutMany iM_allBreaths rM_trial rM_words iM_fewestBreaths iM_orderMany iM_orderSum iM_leastOrder rM_often iM_setMany iM_someOf iM_allOf iM_allWeight iM_enoughWeight iM_worthSum iM_firstRest iM_leastDrawn), (arI rM_tape kM_tape 900 f_7008)]) hP hD rfl
              refine lv_aload_n hx hb dX7_feed_104 rfl (lv_at hl 2 rfl) ?_
              refine lv_dup hx hb dX7_feed_105 rfl ?_
              refine va_get (D := (dC, dI)) (ci := 7) (v := .int z_6967) (C := RX7) (T := TX7) (N := 48) hx hb hts inX7 hown hK hP 0 rfl rfl 2 (by decide) (hts _ wd_185) (fun _ h9 => h9) rfl dX7_feed_106 ?_
              refine lv_iconst (v := 1) hx hb dX7_feed_109 (by decide) ?_
              refine lv_iadd hx hb dX7_feed_110 ?_
              refine lv_topi (fun x_7009 ex_7009 => ?_)
              have hG := hG.trans (lt_eq ex_7009)
              have vx_7009 : x_7009.toInt = z_6967.toInt + 1 := ti_add ex_7009 rfl kc_1 (om_4e4fce7e b_z_6967.1) (om_a4907767 b_z_6967.2)
              refine va_put (D := (dC, dI)) (ci := 7) (v := .int x_7009) (ty := .int) (C := RX7) (T := TX7) (N := 48) hx hb hts inX7 tyX7 tyX7_ok nmX7 hown hK hP hD hS 0 rfl rfl 2 (by decide) (hts _ wd_185) (fun _ h9 => h9) rfl (by decide +kernel) rfl rfl (Nat.le_of_ble_eq_true rfl) dX7_feed_111 (fun H locs hP hD hS => ?_)
              obtain ⟨hP, hD⟩ := wl2 (ws' := [(oc7 oM 0 rM_tape x_7009 iM_size iM_at iM_end iM_token iM_whole iM_nameSize iM_fault iM_place iM_trouble rM_letters iM_failed iM_hasCourt rM_r rM_fresh rM_told rM_read rM_st rM_undone rM_kept iM_undos iM_images rM_fresher iM_fresherSize iM_scale iM_night rM_heardRow rM_cutRow iM_breaths iM_cutMany iM_allBreaths rM_trial rM_words iM_fewestBreaths iM_orderMany iM_orderSum iM_leastOrder rM_often iM_setMany iM_someOf iM_allOf iM_allWeight iM_enoughWeight iM_worthSum iM_firstRest iM_leastDrawn), (arI rM_tape kM_tape 900 f_7008)]) hP hD rfl
              obtain ⟨x_7010, ex_7010⟩ : ∃ z : Int32, z = z_6966 + Int32.ofInt 1 := ⟨_, rfl⟩
              have hG := hG.trans (lt_eq ex_7010)
              have vx_7010 : x_7010.toInt = z_6966.toInt + 1 := ti_add (y := 1) ex_7010 rfl kc_1 (om_4e4fce7e hi0_n_6969.1) (om_575634be hi0_n_6969.2)
              refine lv_iinc (v := x_7010) (lv' := [(6, .int x_7010), (7, .int p1), (0, .ref oM), (1, .int p0), (2, .int p1), (3, .int p2), (4, .int p3), (5, .int p4)]) hx hb dX7_feed_114 hl (k := 1) rfl ex_7010.symm (by decide) rfl (fun ls hl => ?_)
              refine lv_goto (tgt := 23) hx hb dX7_feed_117 (by decide) ?_
              exact ih_n_6969 x_7010 x_7009 f_7008 _ _ _ ⟨(om_83b90de5 b_z_6967.1 vx_7009), (om_80749fdb gc_6965 hi1_n_6969 gc_6970 vx_7009)⟩ ⟨(om_83b90de5 hi0_n_6969.1 vx_7010), (om_63cf9d31 gc_6970 vx_7010)⟩ (om_14f5635e hi1_n_6969 vx_7009 vx_7010) (ms_lt hm_n_6969 (om_91c3f935 vx_7010) (om_49eecdc2 gc_6970)) hG hP hD hS (lv_sub hl [0, 2, 3, 4, 5, 6, 7] rfl)
          · skip
            have hG := hG.trans (if_neg c_6971)
            have gc_6971 := ti_nle c_6971 kc_4 rfl
            refine lv_iload_n hx hb dX7_feed_36 rfl (lv_at hl 2 rfl) ?_
            refine lv_goto (tgt := 76) hx hb dX7_feed_37 (by decide) ?_
            refine lv_istore (lv' := [(7, .int p0), (6, .int z_6966), (0, .ref oM), (1, .int p0), (2, .int p1), (3, .int p2), (4, .int p3), (5, .int p4)]) hx hb dX7_feed_76 hl (by decide) rfl (fun ls hl => ?_)
            refine lv_aload_n hx hb dX7_feed_78 rfl (lv_at hl 2 rfl) ?_
            refine va_get (D := (dC, dI)) (ci := 7) (v := .ref rM_tape) (C := RX7) (T := TX7) (N := 48) hx hb hts inX7 hown hK hP 0 rfl rfl 1 (by decide) (hts _ wd_152) (fun _ h9 => h9) rfl dX7_feed_79 ?_
            refine lv_aload_n hx hb dX7_feed_82 rfl (lv_at hl 2 rfl) ?_
            refine va_get (D := (dC, dI)) (ci := 7) (v := .int z_6967) (C := RX7) (T := TX7) (N := 48) hx hb hts inX7 hown hK hP 0 rfl rfl 2 (by decide) (hts _ wd_185) (fun _ h9 => h9) rfl dX7_feed_83 ?_
            refine lv_iload hx hb dX7_feed_86 (lv_at hl 0 rfl) ?_
            refine lv_bipush (v := 24) hx hb dX7_feed_88 (by decide) ?_
            refine lv_bipush (v := 8) hx hb dX7_feed_90 (by decide) ?_
            refine lv_iload hx hb dX7_feed_92 (lv_at hl 1 rfl) ?_
            refine lv_iconst (v := 4) hx hb dX7_feed_94 (by decide) ?_
            refine lv_irem hx hb dX7_feed_95 (by decide) ?_
            refine lv_topi (fun x_7011 ex_7011 => ?_)
            have hG := hG.trans (lt_eq ex_7011)
            have qx_7011 := ti_rem ex_7011 rfl kc_4 hi0_n_6969.1 (by decide)
            have Qx_7011 := ti_remE ex_7011 rfl kc_4 hi0_n_6969.1 (by decide)
            refine lv_imul hx hb dX7_feed_96 ?_
            refine lv_topi (fun x_7012 ex_7012 => ?_)
            have hG := hG.trans (lt_eq ex_7012)
            have vx_7012 : x_7012.toInt = 8 * x_7011.toInt := ti_mul ex_7012 kc_8 rfl (om_894b99c2 qx_7011.1) (om_626b9a18 qx_7011.2.1)
            refine lv_isub hx hb dX7_feed_97 ?_
            refine lv_topi (fun x_7013 ex_7013 => ?_)
            have hG := hG.trans (lt_eq ex_7013)
            have vx_7013 : x_7013.toInt = (-8) * x_7011.toInt + 24 := om_152fbd22 (ti_sub ex_7013 kc_24 vx_7012 (om_aa692474 qx_7011.2.1) (om_bd3e8f22 qx_7011.1))
            refine lv_ishr hx hb dX7_feed_98 ?_
            refine lv_topi (fun x_7014 ex_7014 => ?_)
            have hG := hG.trans (lt_eq ex_7014)
            refine lv_sipush (v := 255) hx hb dX7_feed_99 (by decide) ?_
            refine lv_iand hx hb dX7_feed_102 ?_
            refine lv_topi (fun x_7015 ex_7015 => ?_)
            have hG := hG.trans (lt_eq ex_7015)
            refine va_iast hx hb hK hP hD hS 1 0 rfl rfl (ti_in rfl b_z_6967.1 (om_53efa0b0 gc_6965 hi1_n_6969 gc_6970)) dX7_feed_103 (fun H locs hP hD hS => ?_)
            obtain ⟨f_7017, ef_7017⟩ : ∃ g : Nat → Int32, g = upd f_6968 z_6967.toNatClampNeg x_7015 := ⟨_, rfl⟩
            rw [← ef_7017] at hP hD
            have hG := hG.trans (lt_eq ef_7017)
            obtain ⟨hP, hD⟩ := wl2 (ws' := [(oc7 oM 0 rM_tape z_6967 iM_size iM_at iM_end iM_token iM_whole iM_nameSize iM_fault iM_place iM_trouble rM_letters iM_failed iM_hasCourt rM_r rM_fresh rM_told rM_read rM_st rM_undone rM_kept iM_undos iM_images rM_fresher iM_fresherSize iM_scale iM_night rM_heardRow rM_cutRow iM_breaths iM_cutMany iM_allBreaths rM_trial rM_words iM_fewestBreaths iM_orderMany iM_orderSum iM_leastOrder rM_often iM_setMany iM_someOf iM_allOf iM_allWeight iM_enoughWeight iM_worthSum iM_firstRest iM_leastDrawn), (arI rM_tape kM_tape 900 f_7017)]) hP hD rfl
            refine lv_aload_n hx hb dX7_feed_104 rfl (lv_at hl 2 rfl) ?_
            refine lv_dup hx hb dX7_feed_105 rfl ?_
            refine va_get (D := (dC, dI)) (ci := 7) (v := .int z_6967) (C := RX7) (T := TX7) (N := 48) hx hb hts inX7 hown hK hP 0 rfl rfl 2 (by decide) (hts _ wd_185) (fun _ h9 => h9) rfl dX7_feed_106 ?_
            refine lv_iconst (v := 1) hx hb dX7_feed_109 (by decide) ?_
            refine lv_iadd hx hb dX7_feed_110 ?_
            refine lv_topi (fun x_7018 ex_7018 => ?_)
            have hG := hG.trans (lt_eq ex_7018)
            have vx_7018 : x_7018.toInt = z_6967.toInt + 1 := ti_add ex_7018 rfl kc_1 (om_4e4fce7e b_z_6967.1) (om_a4907767 b_z_6967.2)
            refine va_put (D := (dC, dI)) (ci := 7) (v := .int x_7018) (ty := .int) (C := RX7) (T := TX7) (N := 48) hx hb hts inX7 tyX7 tyX7_ok nmX7 hown hK hP hD hS 0 rfl rfl 2 (by decide) (hts _ wd_185) (fun _ h9 => h9) rfl (by decide +kernel) rfl rfl (Nat.le_of_ble_eq_true rfl) dX7_feed_111 (fun H locs hP hD hS => ?_)
            obtain ⟨hP, hD⟩ := wl2 (ws' := [(oc7 oM 0 rM_tape x_7018 iM_size iM_at iM_end iM_token iM_whole iM_nameSize iM_fault iM_place iM_trouble rM_letters iM_failed iM_hasCourt rM_r rM_fresh rM_told rM_read rM_st rM_undone rM_kept iM_undos iM_images rM_fresher iM_fresherSize iM_scale iM_night rM_heardRow rM_cutRow iM_breaths iM_cutMany iM_allBreaths rM_trial rM_words iM_fewestBreaths iM_orderMany iM_orderSum iM_leastOrder rM_often iM_setMany iM_someOf iM_allOf iM_allWeight iM_enoughWeight iM_worthSum iM_firstRest iM_leastDrawn), (arI rM_tape kM_tape 900 f_7017)]) hP hD rfl
            obtain ⟨x_7019, ex_7019⟩ : ∃ z : Int32, z = z_6966 + Int32.ofInt 1 := ⟨_, rfl⟩
            have hG := hG.trans (lt_eq ex_7019)
            have vx_7019 : x_7019.toInt = z_6966.toInt + 1 := ti_add (y := 1) ex_7019 rfl kc_1 (om_4e4fce7e hi0_n_6969.1) (om_575634be hi0_n_6969.2)
            refine lv_iinc (v := x_7019) (lv' := [(6, .int x_7019), (7, .int p0), (0, .ref oM), (1, .int p0), (2, .int p1), (3, .int p2), (4, .int p3), (5, .int p4)]) hx hb dX7_feed_114 hl (k := 1) rfl ex_7019.symm (by decide) rfl (fun ls hl => ?_)
            refine lv_goto (tgt := 23) hx hb dX7_feed_117 (by decide) ?_
            exact ih_n_6969 x_7019 x_7018 f_7017 _ _ _ ⟨(om_83b90de5 b_z_6967.1 vx_7018), (om_80749fdb gc_6965 hi1_n_6969 gc_6970 vx_7018)⟩ ⟨(om_83b90de5 hi0_n_6969.1 vx_7019), (om_63cf9d31 gc_6970 vx_7019)⟩ (om_14f5635e hi1_n_6969 vx_7018 vx_7019) (ms_lt hm_n_6969 (om_91c3f935 vx_7019) (om_49eecdc2 gc_6970)) hG hP hD hS (lv_sub hl [0, 2, 3, 4, 5, 6, 7] rfl)
    exact key_n_6969 (((20 - (0 : Int32).toInt).toNat) + 1) 0 iM_taped fM_tape _ _ _ ⟨b_iM_taped.1, b_iM_taped.2⟩ ⟨(om_b1de7dbe kc_0), (om_347b8f70 kc_0)⟩ (om_ed03f020 kc_0) (Nat.lt_add_one _) hG hP hD hS hl
  · skip
    have hG := hG.trans (if_neg c_6965)
    have gc_6965 := ti_nle c_6965 vx_6964 kc_900
    refine lv_iconst (v := (-1)) hx hb dX7_feed_18 (by decide) ?_
    exact wq_i hx hb hr (cI (-1)) ⟨⟨trivial, (by have q := kc_m1; first | omega | assumption)⟩, (cI_of (-1))⟩ (fun t ht hW => ⟨0, iM_taped, fM_tape, (by decide), ⟨b_iM_taped.1, b_iM_taped.2⟩, (by have q0 := kc_0; omega), (cI_tup hG), Bw.to hP hD hK ht hW⟩) hS dX7_feed_19 hlocks
set_option maxHeartbeats 4000000 in
set_option maxRecDepth 100000 in
theorem tX7_best (l : Launch) (dC : Nat → ClassId) (dI : Nat → Nat → Nat) (sz : Nat) (oM : Nat) (iM_thrown : Int32) (rM_tape : Nat) (iM_taped : Int32) (iM_size : Int32) (iM_at : Int32) (iM_end : Int32) (iM_token : Int32) (iM_whole : Int32) (iM_nameSize : Int32) (iM_fault : Int32) (iM_place : Int32) (iM_trouble : Int32) (rM_letters : Nat) (iM_failed : Int32) (iM_hasCourt : Int32) (rM_r : Nat) (fM_r : Nat → Int32) (kM_r : ClassId) (rM_fresh : Nat) (rM_told : Nat) (fM_told : Nat → Int32) (kM_told : ClassId) (rM_read : Nat) (rM_st : Nat) (fM_st : Nat → Int32) (kM_st : ClassId) (rM_undone : Nat) (rM_kept : Nat) (iM_undos : Int32) (iM_images : Int32) (rM_fresher : Nat) (iM_fresherSize : Int32) (iM_scale : Int32) (iM_night : Int32) (rM_heardRow : Nat) (rM_cutRow : Nat) (iM_breaths : Int32) (iM_cutMany : Int32) (iM_allBreaths : Int32) (rM_trial : Nat) (rM_words : Nat) (iM_fewestBreaths : Int32) (iM_orderMany : Int32) (iM_orderSum : Int32) (iM_leastOrder : Int32) (rM_often : Nat) (iM_setMany : Int32) (iM_someOf : Int32) (iM_allOf : Int32) (iM_allWeight : Int64) (iM_enoughWeight : Int64) (iM_worthSum : Int64) (iM_firstRest : Int32) (iM_leastDrawn : Int32) (p0 : Int32) (b_iM_taped : 0 ≤ iM_taped.toInt ∧ iM_taped.toInt ≤ 900) (b_iM_size : 0 ≤ iM_size.toInt ∧ iM_size.toInt ≤ 900) (b_iM_end : 0 ≤ iM_end.toInt ∧ iM_end.toInt ≤ 900) (b_iM_failed : 0 ≤ iM_failed.toInt ∧ iM_failed.toInt ≤ 1) (b_iM_hasCourt : 0 ≤ iM_hasCourt.toInt ∧ iM_hasCourt.toInt ≤ 1) (b_iM_undos : 0 ≤ iM_undos.toInt ∧ iM_undos.toInt ≤ 16) (b_iM_images : 0 ≤ iM_images.toInt ∧ iM_images.toInt ≤ 3) (b_iM_scale : 1 ≤ iM_scale.toInt ∧ iM_scale.toInt ≤ 1296) (b_iM_breaths : 0 ≤ iM_breaths.toInt ∧ iM_breaths.toInt ≤ 399) (b_iM_cutMany : 0 ≤ iM_cutMany.toInt ∧ iM_cutMany.toInt ≤ 399) (r_R : ROk fM_r) (r_C : iM_hasCourt.toInt ≤ 0 ∨ (1 ≤ (fM_r 1).toInt ∧ 0 ≤ (fM_r 6).toInt ∧ (fM_r 6).toInt < (fM_r 1).toInt)) (r_st : RowOk fM_r fM_st) (r_told : RowOk fM_r fM_told) (r_wst : WorOk fM_st) (hnt : iM_night.toInt = -1) : Met l yX7_best (Cond.code yX7_best cX7_best 2 (some .int) :: wG) ({ frames := 22, cells := 0, slots := 0, locals := 586 }) (va_Pc [.ref oM, .int p0] (Pw dC dI sz [(oc7 oM iM_thrown rM_tape iM_taped iM_size iM_at iM_end iM_token iM_whole iM_nameSize iM_fault iM_place iM_trouble rM_letters iM_failed iM_hasCourt rM_r rM_fresh rM_told rM_read rM_st rM_undone rM_kept iM_undos iM_images rM_fresher iM_fresherSize iM_scale iM_night rM_heardRow rM_cutRow iM_breaths iM_cutMany iM_allBreaths rM_trial rM_words iM_fewestBreaths iM_orderMany iM_orderSum iM_leastOrder rM_often iM_setMany iM_someOf iM_allOf iM_allWeight iM_enoughWeight iM_worthSum iM_firstRest iM_leastDrawn), (arI rM_r kM_r 287 fM_r), (arI rM_told kM_told 90 fM_told), (arI rM_st kM_st 90 fM_st)] [(kM_r, .int), (kM_told, .int), (kM_st, .int)])) (va_Qi (fun (r : Int32) (u : Nat) => (True ∧ True) ∧ r = Int32.ofNat u) (fun (u : Nat) (t : State) => ∃ (niM_thrown : Int32) (niM_trouble : Int32), (PX7_best iM_hasCourt fM_r fM_told fM_st iM_scale iM_night p0 = (Int32.ofNat u, niM_thrown, niM_trouble)) ∧ Bw dC dI (va_A [(oc7 oM iM_thrown rM_tape iM_taped iM_size iM_at iM_end iM_token iM_whole iM_nameSize iM_fault iM_place iM_trouble rM_letters iM_failed iM_hasCourt rM_r rM_fresh rM_told rM_read rM_st rM_undone rM_kept iM_undos iM_images rM_fresher iM_fresherSize iM_scale iM_night rM_heardRow rM_cutRow iM_breaths iM_cutMany iM_allBreaths rM_trial rM_words iM_fewestBreaths iM_orderMany iM_orderSum iM_leastOrder rM_often iM_setMany iM_someOf iM_allOf iM_allWeight iM_enoughWeight iM_worthSum iM_firstRest iM_leastDrawn), (arI rM_r kM_r 287 fM_r), (arI rM_told kM_told 90 fM_told), (arI rM_st kM_st 90 fM_st)] sz) [(oc7 oM niM_thrown rM_tape iM_taped iM_size iM_at iM_end iM_token iM_whole iM_nameSize iM_fault iM_place niM_trouble rM_letters iM_failed iM_hasCourt rM_r rM_fresh rM_told rM_read rM_st rM_undone rM_kept iM_undos iM_images rM_fresher iM_fresherSize iM_scale iM_night rM_heardRow rM_cutRow iM_breaths iM_cutMany iM_allBreaths rM_trial rM_words iM_fewestBreaths iM_orderMany iM_orderSum iM_leastOrder rM_often iM_setMany iM_someOf iM_allOf iM_allWeight iM_enoughWeight iM_worthSum iM_firstRest iM_leastDrawn), (arI rM_r kM_r 287 fM_r), (arI rM_told kM_told 90 fM_told), (arI rM_st kM_st 90 fM_st)] [(kM_r, .int), (kM_told, .int), (kM_st, .int)] t) (va_A [(oc7 oM iM_thrown rM_tape iM_taped iM_size iM_at iM_end iM_token iM_whole iM_nameSize iM_fault iM_place iM_trouble rM_letters iM_failed iM_hasCourt rM_r rM_fresh rM_told rM_read rM_st rM_undone rM_kept iM_undos iM_images rM_fresher iM_fresherSize iM_scale iM_night rM_heardRow rM_cutRow iM_breaths iM_cutMany iM_allBreaths rM_trial rM_words iM_fewestBreaths iM_orderMany iM_orderSum iM_leastOrder rM_often iM_setMany iM_someOf iM_allOf iM_allWeight iM_enoughWeight iM_worthSum iM_firstRest iM_leastDrawn), (arI rM_r kM_r 287 fM_r), (arI rM_told kM_told 90 fM_told), (arI rM_st kM_st 90 fM_st)] sz)) 0 0 (va_A [(oc7 oM iM_thrown rM_tape iM_taped iM_size iM_at iM_end iM_token iM_whole iM_nameSize iM_fault iM_place iM_trouble rM_letters iM_failed iM_hasCourt rM_r rM_fresh rM_told rM_read rM_st rM_undone rM_kept iM_undos iM_images rM_fresher iM_fresherSize iM_scale iM_night rM_heardRow rM_cutRow iM_breaths iM_cutMany iM_allBreaths rM_trial rM_words iM_fewestBreaths iM_orderMany iM_orderSum iM_leastOrder rM_often iM_setMany iM_someOf iM_allOf iM_allWeight iM_enoughWeight iM_worthSum iM_firstRest iM_leastDrawn), (arI rM_r kM_r 287 fM_r), (arI rM_told kM_told 90 fM_told), (arI rM_st kM_st 90 fM_st)] sz) := by
  refine Met.ofW (cc := cX7_best) (maxL := 2) (ret := (some .int)) pnX7 rfl ?_
  intro p e s m args below meth c s₁ B hml hv
  obtain ⟨rfl, hsz, hP, hK, hD0, hE⟩ := hv
  have hx := B.exec
  have hb := B.bytes
  have hr := B.returns
  have hts : ∀ w ∈ wG, w.before ([.ref oM, .int p0] : List Value).toArray s = true := fun w h => atoms_spec (ws := Cond.code yX7_best cX7_best 2 (some .int) :: wG) B.pre w (List.mem_cons_of_mem _ h)
  have hown : s.vm.findClass RX7 = some m.cls := own_of B.named rfl
  have hlocks := B.notSynchronized
  subst hsz
  have hD := hD0.self (sz := s.heap.size)
  generalize hAe : va_A [(oc7 oM iM_thrown rM_tape iM_taped iM_size iM_at iM_end iM_token iM_whole iM_nameSize iM_fault iM_place iM_trouble rM_letters iM_failed iM_hasCourt rM_r rM_fresh rM_told rM_read rM_st rM_undone rM_kept iM_undos iM_images rM_fresher iM_fresherSize iM_scale iM_night rM_heardRow rM_cutRow iM_breaths iM_cutMany iM_allBreaths rM_trial rM_words iM_fewestBreaths iM_orderMany iM_orderSum iM_leastOrder rM_often iM_setMany iM_someOf iM_allOf iM_allWeight iM_enoughWeight iM_worthSum iM_firstRest iM_leastDrawn), (arI rM_r kM_r 287 fM_r), (arI rM_told kM_told 90 fM_told), (arI rM_st kM_st 90 fM_st)] s.heap.size = A at hD hE ⊢
  have hA : ∀ q : Nat, s.heap.size ≤ q → A q := fun q h => by rw [← hAe]; exact Or.inr h
  have hS : va_S A s.heap s.heap [] := va_S.rf
  have hl := lv_entry ([.ref oM, .int p0]) (n := 2) (Nat.le_of_ble_eq_true rfl)
  rw [lg_entry_eq]
  generalize (lg_sl ([.ref oM, .int p0]) ++ List.replicate (2 - (lg_sl ([.ref oM, .int p0])).length) Slot.unset).toArray = ls at hl ⊢
  have hl : lv_has ls 2 [(0, .ref oM), (1, .int p0)] := hl
  have hG := PX7_best_eq iM_hasCourt fM_r fM_told fM_st iM_scale iM_night p0
  have s_slips := r_R.slips
  have s_nodes := r_R.nodes
  have s_uns := r_R.uns
  refine lv_aload_n hx hb dX7_best_0 rfl (lv_at hl 0 rfl) ?_
  have hMs := ml_of hD [true, false, false, false] (wc := [(oc7 oM iM_thrown rM_tape iM_taped iM_size iM_at iM_end iM_token iM_whole iM_nameSize iM_fault iM_place iM_trouble rM_letters iM_failed iM_hasCourt rM_r rM_fresh rM_told rM_read rM_st rM_undone rM_kept iM_undos iM_images rM_fresher iM_fresherSize iM_scale iM_night rM_heardRow rM_cutRow iM_breaths iM_cutMany iM_allBreaths rM_trial rM_words iM_fewestBreaths iM_orderMany iM_orderSum iM_leastOrder rM_often iM_setMany iM_someOf iM_allOf iM_allWeight iM_enoughWeight iM_worthSum iM_firstRest iM_leastDrawn)]) rfl
  have hFc := va_freeM hD hS hA _ hMs
  refine va_callv (va_runV (As := []) (rest := []) ⟨hx, hb, hml, hown, hts⟩ (tX7_good l dC dI _ oM iM_thrown rM_tape iM_taped iM_size iM_at iM_end iM_token iM_whole iM_nameSize iM_fault iM_place iM_trouble rM_letters iM_failed iM_hasCourt rM_r rM_fresh rM_told rM_read rM_st rM_undone rM_kept iM_undos iM_images rM_fresher iM_fresherSize iM_scale iM_night rM_heardRow rM_cutRow iM_breaths iM_cutMany iM_allBreaths rM_trial rM_words iM_fewestBreaths iM_orderMany iM_orderSum iM_leastOrder rM_often iM_setMany iM_someOf iM_allOf iM_allWeight iM_enoughWeight iM_worthSum iM_firstRest iM_leastDrawn b_iM_taped b_iM_size b_iM_end b_iM_failed b_iM_hasCourt b_iM_undos b_iM_images b_iM_scale b_iM_breaths b_iM_cutMany) (cwV 0 hts (wd_V wd_388 wd_389 wd_390 wd_5 (wd_c wd_391)) rfl rfl rfl dv_yX7_good_0 ⟨Nat.le_of_ble_eq_true rfl, Nat.le_of_ble_eq_true rfl⟩) ⟨Pw.fb, recvX7 hK hP (q0 := 0) rfl, fun U hU hW => Pw.to (hP.ms _ hMs) (hD.ms _ hMs) (hK.ms [false, false, false] rfl) hE hS hFc hU hW⟩ rfl rfl hl.1 rfl (lv_room (Nat.le_of_ble_eq_true rfl)) dX7_best_1 ⟨Nat.le_of_ble_eq_true rfl, Nat.le_of_ble_eq_true rfl⟩) hS (fun q _ h => hFc q h) hFc (fun u t H locs ht hvm hw hB hz1 hk1 hS => ?_)
  refine ex_2_3 hB (fun x_7028 x_7029 b_x_7028 b_x_7029 e_x_7028_0 hB => ?_)
  obtain ⟨hP, hD⟩ := Bw.goN (ws' := [(oc7 oM x_7028 rM_tape iM_taped iM_size iM_at iM_end iM_token iM_whole iM_nameSize iM_fault iM_place x_7029 rM_letters iM_failed iM_hasCourt rM_r rM_fresh rM_told rM_read rM_st rM_undone rM_kept iM_undos iM_images rM_fresher iM_fresherSize iM_scale iM_night rM_heardRow rM_cutRow iM_breaths iM_cutMany iM_allBreaths rM_trial rM_words iM_fewestBreaths iM_orderMany iM_orderSum iM_leastOrder rM_often iM_setMany iM_someOf iM_allOf iM_allWeight iM_enoughWeight iM_worthSum iM_firstRest iM_leastDrawn), (arI rM_r kM_r 287 fM_r), (arI rM_told kM_told 90 fM_told), (arI rM_st kM_st 90 fM_st)]) hB rfl ht hP hD _ hMs hk1 hFc rfl
  clear hz1 hk1 hvm ht hB hMs
  have hG := hG.trans (un2_eq e_x_7028_0)
  refine lv_aload_n hx hb dX7_best_4 rfl (lv_at hl 0 rfl) ?_
  refine lv_iload_n hx hb dX7_best_5 rfl (lv_at hl 1 rfl) ?_
  have hMs := ml_of hD [true, true, false, false] (wc := [(oc7 oM x_7028 rM_tape iM_taped iM_size iM_at iM_end iM_token iM_whole iM_nameSize iM_fault iM_place x_7029 rM_letters iM_failed iM_hasCourt rM_r rM_fresh rM_told rM_read rM_st rM_undone rM_kept iM_undos iM_images rM_fresher iM_fresherSize iM_scale iM_night rM_heardRow rM_cutRow iM_breaths iM_cutMany iM_allBreaths rM_trial rM_words iM_fewestBreaths iM_orderMany iM_orderSum iM_leastOrder rM_often iM_setMany iM_someOf iM_allOf iM_allWeight iM_enoughWeight iM_worthSum iM_firstRest iM_leastDrawn), (arI rM_r kM_r 287 fM_r)]) rfl
  have hFc := va_freeM hD hS hA _ hMs
  refine va_calli (va_runV (As := [.int p0]) (rest := []) ⟨hx, hb, hml, hown, hts⟩ (tX7_isNode l dC dI _ oM x_7028 rM_tape iM_taped iM_size iM_at iM_end iM_token iM_whole iM_nameSize iM_fault iM_place x_7029 rM_letters iM_failed iM_hasCourt rM_r fM_r kM_r rM_fresh rM_told rM_read rM_st rM_undone rM_kept iM_undos iM_images rM_fresher iM_fresherSize iM_scale iM_night rM_heardRow rM_cutRow iM_breaths iM_cutMany iM_allBreaths rM_trial rM_words iM_fewestBreaths iM_orderMany iM_orderSum iM_leastOrder rM_often iM_setMany iM_someOf iM_allOf iM_allWeight iM_enoughWeight iM_worthSum iM_firstRest iM_leastDrawn p0 b_iM_taped b_iM_size b_iM_end b_iM_failed b_iM_hasCourt b_iM_undos b_iM_images b_iM_scale b_iM_breaths b_iM_cutMany (by assumption) (by assumption)) (cwV 1 hts (wd_V wd_544 wd_545 wd_546 wd_5 (wd_c wd_547)) rfl rfl rfl dv_yX7_isNode_1 ⟨Nat.le_of_ble_eq_true rfl, Nat.le_of_ble_eq_true rfl⟩) ⟨Pw.fb, recvX7 hK hP (q0 := 0) rfl, fun U hU hW => Pw.to (hP.ms _ hMs) (hD.ms _ hMs) (hK.ms [true, false, false] rfl) hE hS hFc hU hW⟩ rfl rfl hl.1 rfl (lv_room (Nat.le_of_ble_eq_true rfl)) dX7_best_6 ⟨Nat.le_of_ble_eq_true rfl, Nat.le_of_ble_eq_true rfl⟩) hS (fun q _ h => hFc q h) hFc (fun r u t H locs ht hvm hw hB hz1 hk1 hS => ?_)
  have hru9 := hw.2
  have hw := hw.1
  obtain ⟨hP, hD⟩ := Bw.goN (ws' := [(oc7 oM x_7028 rM_tape iM_taped iM_size iM_at iM_end iM_token iM_whole iM_nameSize iM_fault iM_place x_7029 rM_letters iM_failed iM_hasCourt rM_r rM_fresh rM_told rM_read rM_st rM_undone rM_kept iM_undos iM_images rM_fresher iM_fresherSize iM_scale iM_night rM_heardRow rM_cutRow iM_breaths iM_cutMany iM_allBreaths rM_trial rM_words iM_fewestBreaths iM_orderMany iM_orderSum iM_leastOrder rM_often iM_setMany iM_someOf iM_allOf iM_allWeight iM_enoughWeight iM_worthSum iM_firstRest iM_leastDrawn), (arI rM_r kM_r 287 fM_r), (arI rM_told kM_told 90 fM_told), (arI rM_st kM_st 90 fM_st)]) hB rfl ht hP hD _ hMs hk1 hFc rfl
  clear hz1 hk1 hvm ht hB hMs
  rcases hw.2 with ⟨rfl, hc_7030⟩ | ⟨rfl, hc_7030⟩
  · skip
    have hG := hG.trans (lt_eq hru9.symm)
    have hG := hG.trans (if_pos rfl)
    refine lv_if_eq (tgt := 20) hx hb dX7_best_9 (by decide) (fun c => absurd c (by decide)) (fun _ => ?_)
    refine lv_aload_n hx hb dX7_best_12 rfl (lv_at hl 0 rfl) ?_
    refine lv_iload_n hx hb dX7_best_13 rfl (lv_at hl 1 rfl) ?_
    have hFc := va_freeI hD hS hA
    refine va_calli (va_runV (As := [.int p0]) (rest := []) ⟨hx, hb, hml, hown, hts⟩ (tX7_bestOf l dC dI _ oM x_7028 rM_tape iM_taped iM_size iM_at iM_end iM_token iM_whole iM_nameSize iM_fault iM_place x_7029 rM_letters iM_failed iM_hasCourt rM_r fM_r kM_r rM_fresh rM_told fM_told kM_told rM_read rM_st fM_st kM_st rM_undone rM_kept iM_undos iM_images rM_fresher iM_fresherSize iM_scale iM_night rM_heardRow rM_cutRow iM_breaths iM_cutMany iM_allBreaths rM_trial rM_words iM_fewestBreaths iM_orderMany iM_orderSum iM_leastOrder rM_often iM_setMany iM_someOf iM_allOf iM_allWeight iM_enoughWeight iM_worthSum iM_firstRest iM_leastDrawn p0 b_iM_taped b_iM_size b_iM_end b_iM_failed b_iM_hasCourt b_iM_undos b_iM_images b_iM_scale b_iM_breaths b_iM_cutMany (by assumption) (by assumption) (by assumption) (by assumption) (by assumption) ⟨hc_7030.1, hc_7030.2.1⟩ hnt) (cwV 1 hts (wd_V wd_670 wd_671 wd_672 wd_5 (wd_c wd_673)) rfl rfl rfl dv_yX7_bestOf_1 ⟨Nat.le_of_ble_eq_true rfl, Nat.le_of_ble_eq_true rfl⟩) ⟨Pw.fb, recvX7 hK hP (q0 := 0) rfl, fun U hU hW => Pw.to hP hD hK hE hS hFc hU hW⟩ rfl rfl hl.1 rfl (lv_room (Nat.le_of_ble_eq_true rfl)) dX7_best_14 ⟨Nat.le_of_ble_eq_true rfl, Nat.le_of_ble_eq_true rfl⟩) hS (fun q _ h => hFc q h) hFc (fun r u t H locs ht hvm hw hB hz1 hk1 hS => ?_)
    have hru9 := hw.2
    have hw := hw.1
    obtain ⟨hP, hD⟩ := Bw.goA (ws' := [(oc7 oM x_7028 rM_tape iM_taped iM_size iM_at iM_end iM_token iM_whole iM_nameSize iM_fault iM_place x_7029 rM_letters iM_failed iM_hasCourt rM_r rM_fresh rM_told rM_read rM_st rM_undone rM_kept iM_undos iM_images rM_fresher iM_fresherSize iM_scale iM_night rM_heardRow rM_cutRow iM_breaths iM_cutMany iM_allBreaths rM_trial rM_words iM_fewestBreaths iM_orderMany iM_orderSum iM_leastOrder rM_often iM_setMany iM_someOf iM_allOf iM_allWeight iM_enoughWeight iM_worthSum iM_firstRest iM_leastDrawn), (arI rM_r kM_r 287 fM_r), (arI rM_told kM_told 90 fM_told), (arI rM_st kM_st 90 fM_st)]) hB rfl ht hFc rfl
    clear hz1 hk1 hvm ht hB
    obtain ⟨x_7033, rfl⟩ : ∃ z, z = r := ⟨_, rfl⟩
    have hG := hG.trans (lt_eq hru9.symm)
    have lx_7033 := hw.2
    have ux_7033 := hw.2
    refine lv_goto (tgt := 25) hx hb dX7_best_17 (by decide) ?_
    exact wq_i hx hb hr (cI x_7033) ⟨⟨trivial, trivial⟩, (cI_of x_7033)⟩ (fun t ht hW => ⟨x_7028, x_7029, (cI_tup hG), Bw.to hP hD hK ht hW⟩) hS dX7_best_25 hlocks
  · skip
    have hG := hG.trans (lt_eq hru9.symm)
    have hG := hG.trans (if_neg (by decide))
    refine lv_if_eq (tgt := 20) hx hb dX7_best_9 (by decide) (fun _ => ?_) (fun c => absurd c (by decide))
    refine lv_aload_n hx hb dX7_best_20 rfl (lv_at hl 0 rfl) ?_
    refine lv_iconst (v := 1) hx hb dX7_best_21 (by decide) ?_
    have hMs := ml_of hD [true, false, false, false] (wc := [(oc7 oM x_7028 rM_tape iM_taped iM_size iM_at iM_end iM_token iM_whole iM_nameSize iM_fault iM_place x_7029 rM_letters iM_failed iM_hasCourt rM_r rM_fresh rM_told rM_read rM_st rM_undone rM_kept iM_undos iM_images rM_fresher iM_fresherSize iM_scale iM_night rM_heardRow rM_cutRow iM_breaths iM_cutMany iM_allBreaths rM_trial rM_words iM_fewestBreaths iM_orderMany iM_orderSum iM_leastOrder rM_often iM_setMany iM_someOf iM_allOf iM_allWeight iM_enoughWeight iM_worthSum iM_firstRest iM_leastDrawn)]) rfl
    have hFc := va_freeM hD hS hA _ hMs
    refine va_calli (va_runV (As := [.int 1]) (rest := []) ⟨hx, hb, hml, hown, hts⟩ (tX7_no l dC dI _ oM x_7028 rM_tape iM_taped iM_size iM_at iM_end iM_token iM_whole iM_nameSize iM_fault iM_place x_7029 rM_letters iM_failed iM_hasCourt rM_r rM_fresh rM_told rM_read rM_st rM_undone rM_kept iM_undos iM_images rM_fresher iM_fresherSize iM_scale iM_night rM_heardRow rM_cutRow iM_breaths iM_cutMany iM_allBreaths rM_trial rM_words iM_fewestBreaths iM_orderMany iM_orderSum iM_leastOrder rM_often iM_setMany iM_someOf iM_allOf iM_allWeight iM_enoughWeight iM_worthSum iM_firstRest iM_leastDrawn 1 b_iM_taped b_iM_size b_iM_end b_iM_failed b_iM_hasCourt b_iM_undos b_iM_images b_iM_scale b_iM_breaths b_iM_cutMany) (cwV 1 hts (wd_V wd_396 wd_397 wd_398 wd_5 (wd_c wd_399)) rfl rfl rfl dv_yX7_no_1 ⟨Nat.le_of_ble_eq_true rfl, Nat.le_of_ble_eq_true rfl⟩) ⟨Pw.fb, recvX7 hK hP (q0 := 0) rfl, fun U hU hW => Pw.to (hP.ms _ hMs) (hD.ms _ hMs) (hK.ms [false, false, false] rfl) hE hS hFc hU hW⟩ rfl rfl hl.1 rfl (lv_room (Nat.le_of_ble_eq_true rfl)) dX7_best_22 ⟨Nat.le_of_ble_eq_true rfl, Nat.le_of_ble_eq_true rfl⟩) hS (fun q _ h => hFc q h) hFc (fun r u t H locs ht hvm hw hB hz1 hk1 hS => ?_)
    have hru9 := hw.2
    have hw := hw.1
    refine ex_1_1 hB (fun x_7035 e_x_7035_0 hB => ?_)
    obtain ⟨hP, hD⟩ := Bw.goN (ws' := [(oc7 oM x_7028 rM_tape iM_taped iM_size iM_at iM_end iM_token iM_whole iM_nameSize iM_fault iM_place x_7035 rM_letters iM_failed iM_hasCourt rM_r rM_fresh rM_told rM_read rM_st rM_undone rM_kept iM_undos iM_images rM_fresher iM_fresherSize iM_scale iM_night rM_heardRow rM_cutRow iM_breaths iM_cutMany iM_allBreaths rM_trial rM_words iM_fewestBreaths iM_orderMany iM_orderSum iM_leastOrder rM_often iM_setMany iM_someOf iM_allOf iM_allWeight iM_enoughWeight iM_worthSum iM_firstRest iM_leastDrawn), (arI rM_r kM_r 287 fM_r), (arI rM_told kM_told 90 fM_told), (arI rM_st kM_st 90 fM_st)]) hB rfl ht hP hD _ hMs hk1 hFc rfl
    clear hz1 hk1 hvm ht hB hMs
    rw [← hru9] at e_x_7035_0
    obtain ⟨x_7036, rfl⟩ : ∃ z, z = r := ⟨_, rfl⟩
    have hG := hG.trans (un2_eq e_x_7035_0)
    exact wq_i hx hb hr (cI x_7036) ⟨⟨trivial, trivial⟩, (cI_of x_7036)⟩ (fun t ht hW => ⟨x_7028, x_7035, (cI_tup hG), Bw.to hP hD hK ht hW⟩) hS dX7_best_25 hlocks
set_option maxHeartbeats 4000000 in
set_option maxRecDepth 100000 in
theorem tX7_line (l : Launch) (dC : Nat → ClassId) (dI : Nat → Nat → Nat) (sz : Nat) (oM : Nat) (iM_thrown : Int32) (rM_tape : Nat) (iM_taped : Int32) (iM_size : Int32) (iM_at : Int32) (iM_end : Int32) (iM_token : Int32) (iM_whole : Int32) (iM_nameSize : Int32) (iM_fault : Int32) (iM_place : Int32) (iM_trouble : Int32) (rM_letters : Nat) (iM_failed : Int32) (iM_hasCourt : Int32) (rM_r : Nat) (fM_r : Nat → Int32) (kM_r : ClassId) (rM_fresh : Nat) (rM_told : Nat) (fM_told : Nat → Int32) (kM_told : ClassId) (rM_read : Nat) (rM_st : Nat) (fM_st : Nat → Int32) (kM_st : ClassId) (rM_undone : Nat) (rM_kept : Nat) (iM_undos : Int32) (iM_images : Int32) (rM_fresher : Nat) (iM_fresherSize : Int32) (iM_scale : Int32) (iM_night : Int32) (rM_heardRow : Nat) (rM_cutRow : Nat) (iM_breaths : Int32) (iM_cutMany : Int32) (iM_allBreaths : Int32) (rM_trial : Nat) (rM_words : Nat) (iM_fewestBreaths : Int32) (iM_orderMany : Int32) (iM_orderSum : Int32) (iM_leastOrder : Int32) (rM_often : Nat) (iM_setMany : Int32) (iM_someOf : Int32) (iM_allOf : Int32) (iM_allWeight : Int64) (iM_enoughWeight : Int64) (iM_worthSum : Int64) (iM_firstRest : Int32) (iM_leastDrawn : Int32) (b_iM_taped : 0 ≤ iM_taped.toInt ∧ iM_taped.toInt ≤ 900) (b_iM_size : 0 ≤ iM_size.toInt ∧ iM_size.toInt ≤ 900) (b_iM_end : 0 ≤ iM_end.toInt ∧ iM_end.toInt ≤ 900) (b_iM_failed : 0 ≤ iM_failed.toInt ∧ iM_failed.toInt ≤ 1) (b_iM_hasCourt : 0 ≤ iM_hasCourt.toInt ∧ iM_hasCourt.toInt ≤ 1) (b_iM_undos : 0 ≤ iM_undos.toInt ∧ iM_undos.toInt ≤ 16) (b_iM_images : 0 ≤ iM_images.toInt ∧ iM_images.toInt ≤ 3) (b_iM_scale : 1 ≤ iM_scale.toInt ∧ iM_scale.toInt ≤ 1296) (b_iM_breaths : 0 ≤ iM_breaths.toInt ∧ iM_breaths.toInt ≤ 399) (b_iM_cutMany : 0 ≤ iM_cutMany.toInt ∧ iM_cutMany.toInt ≤ 399) (r_R : ROk fM_r) (r_C : iM_hasCourt.toInt ≤ 0 ∨ (1 ≤ (fM_r 1).toInt ∧ 0 ≤ (fM_r 6).toInt ∧ (fM_r 6).toInt < (fM_r 1).toInt)) (r_st : RowOk fM_r fM_st) (r_told : RowOk fM_r fM_told) (r_wst : WorOk fM_st) (hnt : iM_night.toInt = -1) : Met l yX7_line (Cond.code yX7_line cX7_line 3 (some .int) :: wG) ({ frames := 22, cells := 0, slots := 0, locals := 586 }) (va_Pc [.ref oM] (Pw dC dI sz [(oc7 oM iM_thrown rM_tape iM_taped iM_size iM_at iM_end iM_token iM_whole iM_nameSize iM_fault iM_place iM_trouble rM_letters iM_failed iM_hasCourt rM_r rM_fresh rM_told rM_read rM_st rM_undone rM_kept iM_undos iM_images rM_fresher iM_fresherSize iM_scale iM_night rM_heardRow rM_cutRow iM_breaths iM_cutMany iM_allBreaths rM_trial rM_words iM_fewestBreaths iM_orderMany iM_orderSum iM_leastOrder rM_often iM_setMany iM_someOf iM_allOf iM_allWeight iM_enoughWeight iM_worthSum iM_firstRest iM_leastDrawn), (arI rM_r kM_r 287 fM_r), (arI rM_told kM_told 90 fM_told), (arI rM_st kM_st 90 fM_st)] [(kM_r, .int), (kM_told, .int), (kM_st, .int)])) (va_Qi (fun (r : Int32) (u : Nat) => (True ∧ True) ∧ r = Int32.ofNat u) (fun (u : Nat) (t : State) => ∃ (niM_thrown : Int32) (niM_trouble : Int32), (PX7_line iM_hasCourt fM_r fM_told fM_st iM_scale iM_night = (Int32.ofNat u, niM_thrown, niM_trouble)) ∧ Bw dC dI (va_A [(oc7 oM iM_thrown rM_tape iM_taped iM_size iM_at iM_end iM_token iM_whole iM_nameSize iM_fault iM_place iM_trouble rM_letters iM_failed iM_hasCourt rM_r rM_fresh rM_told rM_read rM_st rM_undone rM_kept iM_undos iM_images rM_fresher iM_fresherSize iM_scale iM_night rM_heardRow rM_cutRow iM_breaths iM_cutMany iM_allBreaths rM_trial rM_words iM_fewestBreaths iM_orderMany iM_orderSum iM_leastOrder rM_often iM_setMany iM_someOf iM_allOf iM_allWeight iM_enoughWeight iM_worthSum iM_firstRest iM_leastDrawn), (arI rM_r kM_r 287 fM_r), (arI rM_told kM_told 90 fM_told), (arI rM_st kM_st 90 fM_st)] sz) [(oc7 oM niM_thrown rM_tape iM_taped iM_size iM_at iM_end iM_token iM_whole iM_nameSize iM_fault iM_place niM_trouble rM_letters iM_failed iM_hasCourt rM_r rM_fresh rM_told rM_read rM_st rM_undone rM_kept iM_undos iM_images rM_fresher iM_fresherSize iM_scale iM_night rM_heardRow rM_cutRow iM_breaths iM_cutMany iM_allBreaths rM_trial rM_words iM_fewestBreaths iM_orderMany iM_orderSum iM_leastOrder rM_often iM_setMany iM_someOf iM_allOf iM_allWeight iM_enoughWeight iM_worthSum iM_firstRest iM_leastDrawn), (arI rM_r kM_r 287 fM_r), (arI rM_told kM_told 90 fM_told), (arI rM_st kM_st 90 fM_st)] [(kM_r, .int), (kM_told, .int), (kM_st, .int)] t) (va_A [(oc7 oM iM_thrown rM_tape iM_taped iM_size iM_at iM_end iM_token iM_whole iM_nameSize iM_fault iM_place iM_trouble rM_letters iM_failed iM_hasCourt rM_r rM_fresh rM_told rM_read rM_st rM_undone rM_kept iM_undos iM_images rM_fresher iM_fresherSize iM_scale iM_night rM_heardRow rM_cutRow iM_breaths iM_cutMany iM_allBreaths rM_trial rM_words iM_fewestBreaths iM_orderMany iM_orderSum iM_leastOrder rM_often iM_setMany iM_someOf iM_allOf iM_allWeight iM_enoughWeight iM_worthSum iM_firstRest iM_leastDrawn), (arI rM_r kM_r 287 fM_r), (arI rM_told kM_told 90 fM_told), (arI rM_st kM_st 90 fM_st)] sz)) 0 0 (va_A [(oc7 oM iM_thrown rM_tape iM_taped iM_size iM_at iM_end iM_token iM_whole iM_nameSize iM_fault iM_place iM_trouble rM_letters iM_failed iM_hasCourt rM_r rM_fresh rM_told rM_read rM_st rM_undone rM_kept iM_undos iM_images rM_fresher iM_fresherSize iM_scale iM_night rM_heardRow rM_cutRow iM_breaths iM_cutMany iM_allBreaths rM_trial rM_words iM_fewestBreaths iM_orderMany iM_orderSum iM_leastOrder rM_often iM_setMany iM_someOf iM_allOf iM_allWeight iM_enoughWeight iM_worthSum iM_firstRest iM_leastDrawn), (arI rM_r kM_r 287 fM_r), (arI rM_told kM_told 90 fM_told), (arI rM_st kM_st 90 fM_st)] sz) := by
  refine Met.ofW (cc := cX7_line) (maxL := 3) (ret := (some .int)) pnX7 rfl ?_
  intro p e s m args below meth c s₁ B hml hv
  obtain ⟨rfl, hsz, hP, hK, hD0, hE⟩ := hv
  have hx := B.exec
  have hb := B.bytes
  have hr := B.returns
  have hts : ∀ w ∈ wG, w.before ([.ref oM] : List Value).toArray s = true := fun w h => atoms_spec (ws := Cond.code yX7_line cX7_line 3 (some .int) :: wG) B.pre w (List.mem_cons_of_mem _ h)
  have hown : s.vm.findClass RX7 = some m.cls := own_of B.named rfl
  have hlocks := B.notSynchronized
  subst hsz
  have hD := hD0.self (sz := s.heap.size)
  generalize hAe : va_A [(oc7 oM iM_thrown rM_tape iM_taped iM_size iM_at iM_end iM_token iM_whole iM_nameSize iM_fault iM_place iM_trouble rM_letters iM_failed iM_hasCourt rM_r rM_fresh rM_told rM_read rM_st rM_undone rM_kept iM_undos iM_images rM_fresher iM_fresherSize iM_scale iM_night rM_heardRow rM_cutRow iM_breaths iM_cutMany iM_allBreaths rM_trial rM_words iM_fewestBreaths iM_orderMany iM_orderSum iM_leastOrder rM_often iM_setMany iM_someOf iM_allOf iM_allWeight iM_enoughWeight iM_worthSum iM_firstRest iM_leastDrawn), (arI rM_r kM_r 287 fM_r), (arI rM_told kM_told 90 fM_told), (arI rM_st kM_st 90 fM_st)] s.heap.size = A at hD hE ⊢
  have hA : ∀ q : Nat, s.heap.size ≤ q → A q := fun q h => by rw [← hAe]; exact Or.inr h
  have hS : va_S A s.heap s.heap [] := va_S.rf
  have hl := lv_entry ([.ref oM]) (n := 3) (Nat.le_of_ble_eq_true rfl)
  rw [lg_entry_eq]
  generalize (lg_sl ([.ref oM]) ++ List.replicate (3 - (lg_sl ([.ref oM])).length) Slot.unset).toArray = ls at hl ⊢
  have hl : lv_has ls 3 [(0, .ref oM)] := hl
  have hG := PX7_line_eq iM_hasCourt fM_r fM_told fM_st iM_scale iM_night
  have s_slips := r_R.slips
  have s_nodes := r_R.nodes
  have s_uns := r_R.uns
  refine lv_aload_n hx hb dX7_line_0 rfl (lv_at hl 0 rfl) ?_
  have hMs := ml_of hD [true, false, false, false] (wc := [(oc7 oM iM_thrown rM_tape iM_taped iM_size iM_at iM_end iM_token iM_whole iM_nameSize iM_fault iM_place iM_trouble rM_letters iM_failed iM_hasCourt rM_r rM_fresh rM_told rM_read rM_st rM_undone rM_kept iM_undos iM_images rM_fresher iM_fresherSize iM_scale iM_night rM_heardRow rM_cutRow iM_breaths iM_cutMany iM_allBreaths rM_trial rM_words iM_fewestBreaths iM_orderMany iM_orderSum iM_leastOrder rM_often iM_setMany iM_someOf iM_allOf iM_allWeight iM_enoughWeight iM_worthSum iM_firstRest iM_leastDrawn)]) rfl
  have hFc := va_freeM hD hS hA _ hMs
  refine va_callv (va_runV (As := []) (rest := []) ⟨hx, hb, hml, hown, hts⟩ (tX7_good l dC dI _ oM iM_thrown rM_tape iM_taped iM_size iM_at iM_end iM_token iM_whole iM_nameSize iM_fault iM_place iM_trouble rM_letters iM_failed iM_hasCourt rM_r rM_fresh rM_told rM_read rM_st rM_undone rM_kept iM_undos iM_images rM_fresher iM_fresherSize iM_scale iM_night rM_heardRow rM_cutRow iM_breaths iM_cutMany iM_allBreaths rM_trial rM_words iM_fewestBreaths iM_orderMany iM_orderSum iM_leastOrder rM_often iM_setMany iM_someOf iM_allOf iM_allWeight iM_enoughWeight iM_worthSum iM_firstRest iM_leastDrawn b_iM_taped b_iM_size b_iM_end b_iM_failed b_iM_hasCourt b_iM_undos b_iM_images b_iM_scale b_iM_breaths b_iM_cutMany) (cwV 0 hts (wd_V wd_388 wd_389 wd_390 wd_5 (wd_c wd_391)) rfl rfl rfl dv_yX7_good_0 ⟨Nat.le_of_ble_eq_true rfl, Nat.le_of_ble_eq_true rfl⟩) ⟨Pw.fb, recvX7 hK hP (q0 := 0) rfl, fun U hU hW => Pw.to (hP.ms _ hMs) (hD.ms _ hMs) (hK.ms [false, false, false] rfl) hE hS hFc hU hW⟩ rfl rfl hl.1 rfl (lv_room (Nat.le_of_ble_eq_true rfl)) dX7_line_1 ⟨Nat.le_of_ble_eq_true rfl, Nat.le_of_ble_eq_true rfl⟩) hS (fun q _ h => hFc q h) hFc (fun u t H locs ht hvm hw hB hz1 hk1 hS => ?_)
  refine ex_2_3 hB (fun x_7066 x_7067 b_x_7066 b_x_7067 e_x_7066_0 hB => ?_)
  obtain ⟨hP, hD⟩ := Bw.goN (ws' := [(oc7 oM x_7066 rM_tape iM_taped iM_size iM_at iM_end iM_token iM_whole iM_nameSize iM_fault iM_place x_7067 rM_letters iM_failed iM_hasCourt rM_r rM_fresh rM_told rM_read rM_st rM_undone rM_kept iM_undos iM_images rM_fresher iM_fresherSize iM_scale iM_night rM_heardRow rM_cutRow iM_breaths iM_cutMany iM_allBreaths rM_trial rM_words iM_fewestBreaths iM_orderMany iM_orderSum iM_leastOrder rM_often iM_setMany iM_someOf iM_allOf iM_allWeight iM_enoughWeight iM_worthSum iM_firstRest iM_leastDrawn), (arI rM_r kM_r 287 fM_r), (arI rM_told kM_told 90 fM_told), (arI rM_st kM_st 90 fM_st)]) hB rfl ht hP hD _ hMs hk1 hFc rfl
  clear hz1 hk1 hvm ht hB hMs
  have hG := hG.trans (un2_eq e_x_7066_0)
  refine lv_aload_n hx hb dX7_line_4 rfl (lv_at hl 0 rfl) ?_
  rcases (id r_C) with r_C0 | r_C1
  · skip
    refine va_get (D := (dC, dI)) (ci := 7) (v := .int iM_hasCourt) (C := RX7) (T := TX7) (N := 48) hx hb hts inX7 hown hK hP 0 rfl rfl 14 (by decide) (hts _ wd_385) (fun _ h9 => h9) rfl dX7_line_5 ?_
    refine lv_if_ne (tgt := 17) hx hb dX7_line_8 (by decide) (fun c_7068 => ?_) (fun c_7068 => ?_)
    · skip
      have hG := hG.trans (if_neg c_7068)
      have gc_7068 := ti_ne c_7068 rfl kc_0
      replace gc_7068 : iM_hasCourt.toInt + 1 ≤ 0 := om_c7c1b1e9 gc_7068 r_C0
      exact ((om_5185113d b_iM_hasCourt.1 gc_7068)).elim
    · skip
      have hG := hG.trans (if_pos c_7068)
      have gc_7068 := ti_eq c_7068 rfl kc_0
      refine lv_aload_n hx hb dX7_line_11 rfl (lv_at hl 0 rfl) ?_
      refine lv_iconst (v := 1) hx hb dX7_line_12 (by decide) ?_
      have hMs := ml_of hD [true, false, false, false] (wc := [(oc7 oM x_7066 rM_tape iM_taped iM_size iM_at iM_end iM_token iM_whole iM_nameSize iM_fault iM_place x_7067 rM_letters iM_failed iM_hasCourt rM_r rM_fresh rM_told rM_read rM_st rM_undone rM_kept iM_undos iM_images rM_fresher iM_fresherSize iM_scale iM_night rM_heardRow rM_cutRow iM_breaths iM_cutMany iM_allBreaths rM_trial rM_words iM_fewestBreaths iM_orderMany iM_orderSum iM_leastOrder rM_often iM_setMany iM_someOf iM_allOf iM_allWeight iM_enoughWeight iM_worthSum iM_firstRest iM_leastDrawn)]) rfl
      have hFc := va_freeM hD hS hA _ hMs
      refine va_calli (va_runV (As := [.int 1]) (rest := []) ⟨hx, hb, hml, hown, hts⟩ (tX7_no l dC dI _ oM x_7066 rM_tape iM_taped iM_size iM_at iM_end iM_token iM_whole iM_nameSize iM_fault iM_place x_7067 rM_letters iM_failed iM_hasCourt rM_r rM_fresh rM_told rM_read rM_st rM_undone rM_kept iM_undos iM_images rM_fresher iM_fresherSize iM_scale iM_night rM_heardRow rM_cutRow iM_breaths iM_cutMany iM_allBreaths rM_trial rM_words iM_fewestBreaths iM_orderMany iM_orderSum iM_leastOrder rM_often iM_setMany iM_someOf iM_allOf iM_allWeight iM_enoughWeight iM_worthSum iM_firstRest iM_leastDrawn 1 b_iM_taped b_iM_size b_iM_end b_iM_failed b_iM_hasCourt b_iM_undos b_iM_images b_iM_scale b_iM_breaths b_iM_cutMany) (cwV 1 hts (wd_V wd_396 wd_397 wd_398 wd_5 (wd_c wd_399)) rfl rfl rfl dv_yX7_no_1 ⟨Nat.le_of_ble_eq_true rfl, Nat.le_of_ble_eq_true rfl⟩) ⟨Pw.fb, recvX7 hK hP (q0 := 0) rfl, fun U hU hW => Pw.to (hP.ms _ hMs) (hD.ms _ hMs) (hK.ms [false, false, false] rfl) hE hS hFc hU hW⟩ rfl rfl hl.1 rfl (lv_room (Nat.le_of_ble_eq_true rfl)) dX7_line_13 ⟨Nat.le_of_ble_eq_true rfl, Nat.le_of_ble_eq_true rfl⟩) hS (fun q _ h => hFc q h) hFc (fun r u t H locs ht hvm hw hB hz1 hk1 hS => ?_)
      have hru9 := hw.2
      have hw := hw.1
      refine ex_1_1 hB (fun x_7069 e_x_7069_0 hB => ?_)
      obtain ⟨hP, hD⟩ := Bw.goN (ws' := [(oc7 oM x_7066 rM_tape iM_taped iM_size iM_at iM_end iM_token iM_whole iM_nameSize iM_fault iM_place x_7069 rM_letters iM_failed iM_hasCourt rM_r rM_fresh rM_told rM_read rM_st rM_undone rM_kept iM_undos iM_images rM_fresher iM_fresherSize iM_scale iM_night rM_heardRow rM_cutRow iM_breaths iM_cutMany iM_allBreaths rM_trial rM_words iM_fewestBreaths iM_orderMany iM_orderSum iM_leastOrder rM_often iM_setMany iM_someOf iM_allOf iM_allWeight iM_enoughWeight iM_worthSum iM_firstRest iM_leastDrawn), (arI rM_r kM_r 287 fM_r), (arI rM_told kM_told 90 fM_told), (arI rM_st kM_st 90 fM_st)]) hB rfl ht hP hD _ hMs hk1 hFc rfl
      clear hz1 hk1 hvm ht hB hMs
      rw [← hru9] at e_x_7069_0
      obtain ⟨x_7070, rfl⟩ : ∃ z, z = r := ⟨_, rfl⟩
      have hG := hG.trans (un2_eq e_x_7069_0)
      exact wq_i hx hb hr (cI x_7070) ⟨⟨trivial, trivial⟩, (cI_of x_7070)⟩ (fun t ht hW => ⟨x_7066, x_7069, (cI_tup hG), Bw.to hP hD hK ht hW⟩) hS dX7_line_16 hlocks
  · skip
    refine va_get (D := (dC, dI)) (ci := 7) (v := .int iM_hasCourt) (C := RX7) (T := TX7) (N := 48) hx hb hts inX7 hown hK hP 0 rfl rfl 14 (by decide) (hts _ wd_385) (fun _ h9 => h9) rfl dX7_line_5 ?_
    refine lv_if_ne (tgt := 17) hx hb dX7_line_8 (by decide) (fun c_7071 => ?_) (fun c_7071 => ?_)
    · skip
      have hG := hG.trans (if_neg c_7071)
      have gc_7071 := ti_ne c_7071 rfl kc_0
      replace gc_7071 : (-1) * iM_hasCourt.toInt + 1 ≤ 0 := om_e3003f79 gc_7071 b_iM_hasCourt.1
      refine lv_iconst (v := 1) hx hb dX7_line_17 (by decide) ?_
      refine lv_istore_n (lv' := [(1, .int 1), (0, .ref oM)]) hx hb dX7_line_18 rfl hl (by decide) rfl (fun ls hl => ?_)
      refine lv_aload_n hx hb dX7_line_19 rfl (lv_at hl 1 rfl) ?_
      refine lv_aload_n hx hb dX7_line_20 rfl (lv_at hl 1 rfl) ?_
      refine va_get (D := (dC, dI)) (ci := 7) (v := .ref rM_r) (C := RX7) (T := TX7) (N := 48) hx hb hts inX7 hown hK hP 0 rfl rfl 15 (by decide) (hts _ wd_155) (fun _ h9 => h9) rfl dX7_line_21 ?_
      refine lv_bipush (v := 6) hx hb dX7_line_24 (by decide) ?_
      refine va_iald hx hb hK hP 1 0 rfl rfl (by unfold vp_in; decide) dX7_line_26 ?_
      refine lv_topi (fun x_7072 ex_7072 => ?_)
      have hG := hG.trans (lt_eq ex_7072)
      have cx_7072 : (fM_r 6).toInt = x_7072.toInt := congrArg Int32.toInt (show fM_r 6 = x_7072 from ex_7072.symm)
      have hFc := va_freeI hD hS hA
      refine va_calli (va_runV (As := [.int x_7072]) (rest := []) ⟨hx, hb, hml, hown, hts⟩ (tX7_bestOf l dC dI _ oM x_7066 rM_tape iM_taped iM_size iM_at iM_end iM_token iM_whole iM_nameSize iM_fault iM_place x_7067 rM_letters iM_failed iM_hasCourt rM_r fM_r kM_r rM_fresh rM_told fM_told kM_told rM_read rM_st fM_st kM_st rM_undone rM_kept iM_undos iM_images rM_fresher iM_fresherSize iM_scale iM_night rM_heardRow rM_cutRow iM_breaths iM_cutMany iM_allBreaths rM_trial rM_words iM_fewestBreaths iM_orderMany iM_orderSum iM_leastOrder rM_often iM_setMany iM_someOf iM_allOf iM_allWeight iM_enoughWeight iM_worthSum iM_firstRest iM_leastDrawn x_7072 b_iM_taped b_iM_size b_iM_end b_iM_failed b_iM_hasCourt b_iM_undos b_iM_images b_iM_scale b_iM_breaths b_iM_cutMany (by assumption) (by assumption) (by assumption) (by assumption) (by assumption) ⟨(om_6429e25c r_C1.2.1 cx_7072), (om_21cef2c6 r_C1.2.2 cx_7072)⟩ hnt) (cwV 1 hts (wd_V wd_670 wd_671 wd_672 wd_5 (wd_c wd_673)) rfl rfl rfl dv_yX7_bestOf_1 ⟨Nat.le_of_ble_eq_true rfl, Nat.le_of_ble_eq_true rfl⟩) ⟨Pw.fb, recvX7 hK hP (q0 := 0) rfl, fun U hU hW => Pw.to hP hD hK hE hS hFc hU hW⟩ rfl rfl hl.1 rfl (lv_room (Nat.le_of_ble_eq_true rfl)) dX7_line_27 ⟨Nat.le_of_ble_eq_true rfl, Nat.le_of_ble_eq_true rfl⟩) hS (fun q _ h => hFc q h) hFc (fun r u t H locs ht hvm hw hB hz1 hk1 hS => ?_)
      have hru9 := hw.2
      have hw := hw.1
      obtain ⟨hP, hD⟩ := Bw.goA (ws' := [(oc7 oM x_7066 rM_tape iM_taped iM_size iM_at iM_end iM_token iM_whole iM_nameSize iM_fault iM_place x_7067 rM_letters iM_failed iM_hasCourt rM_r rM_fresh rM_told rM_read rM_st rM_undone rM_kept iM_undos iM_images rM_fresher iM_fresherSize iM_scale iM_night rM_heardRow rM_cutRow iM_breaths iM_cutMany iM_allBreaths rM_trial rM_words iM_fewestBreaths iM_orderMany iM_orderSum iM_leastOrder rM_often iM_setMany iM_someOf iM_allOf iM_allWeight iM_enoughWeight iM_worthSum iM_firstRest iM_leastDrawn), (arI rM_r kM_r 287 fM_r), (arI rM_told kM_told 90 fM_told), (arI rM_st kM_st 90 fM_st)]) hB rfl ht hFc rfl
      clear hz1 hk1 hvm ht hB
      obtain ⟨x_7073, rfl⟩ : ∃ z, z = r := ⟨_, rfl⟩
      have hG := hG.trans (lt_eq hru9.symm)
      have lx_7073 := hw.2
      have ux_7073 := hw.2
      refine lv_istore_n (lv' := [(2, .int x_7073), (1, .int 1), (0, .ref oM)]) hx hb dX7_line_30 rfl hl (by decide) rfl (fun ls hl => ?_)
      have hl := lv_sub hl (l' := [(2, .int x_7073), (1, .int 1), (0, .ref oM)]) [0, 1, 2] rfl
      have key_n_7076 : ∀ (n_7076 : Nat) (z_7074 : Int32) (z_7075 : Int32) (H : Heap) (locs : List Loc) (ls : Array Slot), (-2 ≤ z_7074.toInt ∧ z_7074.toInt < (fM_r 1).toInt) → (z_7074.toInt + 3).toNat < n_7076 → (PX7_line iM_hasCourt fM_r fM_told fM_st iM_scale iM_night = HX7_line_0 fM_r fM_told fM_st iM_scale iM_night x_7066 x_7067 n_7076 z_7074 z_7075) → va_P (dC, dI) vwCl [(oc7 oM x_7066 rM_tape iM_taped iM_size iM_at iM_end iM_token iM_whole iM_nameSize iM_fault iM_place x_7067 rM_letters iM_failed iM_hasCourt rM_r rM_fresh rM_told rM_read rM_st rM_undone rM_kept iM_undos iM_images rM_fresher iM_fresherSize iM_scale iM_night rM_heardRow rM_cutRow iM_breaths iM_cutMany iM_allBreaths rM_trial rM_words iM_fewestBreaths iM_orderMany iM_orderSum iM_leastOrder rM_often iM_setMany iM_someOf iM_allOf iM_allWeight iM_enoughWeight iM_worthSum iM_firstRest iM_leastDrawn), (arI rM_r kM_r 287 fM_r), (arI rM_told kM_told 90 fM_told), (arI rM_st kM_st 90 fM_st)] H → va_D A [(oc7 oM x_7066 rM_tape iM_taped iM_size iM_at iM_end iM_token iM_whole iM_nameSize iM_fault iM_place x_7067 rM_letters iM_failed iM_hasCourt rM_r rM_fresh rM_told rM_read rM_st rM_undone rM_kept iM_undos iM_images rM_fresher iM_fresherSize iM_scale iM_night rM_heardRow rM_cutRow iM_breaths iM_cutMany iM_allBreaths rM_trial rM_words iM_fewestBreaths iM_orderMany iM_orderSum iM_leastOrder rM_often iM_setMany iM_someOf iM_allOf iM_allWeight iM_enoughWeight iM_worthSum iM_firstRest iM_leastDrawn), (arI rM_r kM_r 287 fM_r), (arI rM_told kM_told 90 fM_told), (arI rM_st kM_st 90 fM_st)] → va_S A s.heap H locs → lv_has ls 3 [(2, .int z_7074), (1, .int z_7075), (0, .ref oM)] → W p l e (headSpec (Cond.code yX7_line cX7_line 3 (some .int) :: wG) ({ frames := 22, cells := 0, slots := 0, locals := 586 })).room s m ([.ref oM] : List Value).toArray below meth c H locs 0 0 (MQ below (va_Qi (fun (r : Int32) (u : Nat) => (True ∧ True) ∧ r = Int32.ofNat u) (fun (u : Nat) (t : State) => ∃ (niM_thrown : Int32) (niM_trouble : Int32), (PX7_line iM_hasCourt fM_r fM_told fM_st iM_scale iM_night = (Int32.ofNat u, niM_thrown, niM_trouble)) ∧ Bw dC dI A [(oc7 oM niM_thrown rM_tape iM_taped iM_size iM_at iM_end iM_token iM_whole iM_nameSize iM_fault iM_place niM_trouble rM_letters iM_failed iM_hasCourt rM_r rM_fresh rM_told rM_read rM_st rM_undone rM_kept iM_undos iM_images rM_fresher iM_fresherSize iM_scale iM_night rM_heardRow rM_cutRow iM_breaths iM_cutMany iM_allBreaths rM_trial rM_words iM_fewestBreaths iM_orderMany iM_orderSum iM_leastOrder rM_often iM_setMany iM_someOf iM_allOf iM_allWeight iM_enoughWeight iM_worthSum iM_firstRest iM_leastDrawn), (arI rM_r kM_r 287 fM_r), (arI rM_told kM_told 90 fM_told), (arI rM_st kM_st 90 fM_st)] [(kM_r, .int), (kM_told, .int), (kM_st, .int)] t) A) ([.ref oM] : List Value).toArray s 0 0 A) (F0 m 31 ls []) := by
        intro n_7076
        induction n_7076 with
        | zero => intro z_7074 z_7075 H locs ls hi0_n_7076 hm; exact absurd hm (Nat.not_lt_zero _)
        | succ n_7076 ih_n_7076 =>
          intro z_7074 z_7075 H locs ls hi0_n_7076 hm_n_7076 hG hP hD hS hl
          have hG := hG.trans (HX7_line_0_eq _ _ _ _ _ _ _ _ _ _)
          refine lv_iload_n hx hb dX7_line_31 rfl (lv_at hl 0 rfl) ?_
          refine lv_if_lt (tgt := 47) hx hb dX7_line_32 (by decide) (fun c_7077 => ?_) (fun c_7077 => ?_)
          · skip
            have hG := hG.trans (if_pos c_7077)
            have gc_7077 := ti_lt c_7077 rfl kc_0
            refine lv_iload_n hx hb dX7_line_47 rfl (lv_at hl 1 rfl) ?_
            exact wq_i hx hb hr (cI z_7075) ⟨⟨trivial, trivial⟩, (cI_of z_7075)⟩ (fun t ht hW => ⟨x_7066, x_7067, (cI_tup hG), Bw.to hP hD hK ht hW⟩) hS dX7_line_48 hlocks
          · skip
            have hG := hG.trans (if_neg c_7077)
            have gc_7077 := ti_nlt c_7077 rfl kc_0
            obtain ⟨x_7078, ex_7078⟩ : ∃ z : Int32, z = z_7075 + Int32.ofInt 1 := ⟨_, rfl⟩
            have hG := hG.trans (lt_eq ex_7078)
            refine lv_iinc (v := x_7078) (lv' := [(1, .int x_7078), (2, .int z_7074), (0, .ref oM)]) hx hb dX7_line_35 hl (k := 1) rfl ex_7078.symm (by decide) rfl (fun ls hl => ?_)
            refine lv_aload_n hx hb dX7_line_38 rfl (lv_at hl 2 rfl) ?_
            refine lv_iload_n hx hb dX7_line_39 rfl (lv_at hl 1 rfl) ?_
            have hFc := va_freeI hD hS hA
            refine va_calli (va_runV (As := [.int z_7074]) (rest := []) ⟨hx, hb, hml, hown, hts⟩ (tX7_bestOf l dC dI _ oM x_7066 rM_tape iM_taped iM_size iM_at iM_end iM_token iM_whole iM_nameSize iM_fault iM_place x_7067 rM_letters iM_failed iM_hasCourt rM_r fM_r kM_r rM_fresh rM_told fM_told kM_told rM_read rM_st fM_st kM_st rM_undone rM_kept iM_undos iM_images rM_fresher iM_fresherSize iM_scale iM_night rM_heardRow rM_cutRow iM_breaths iM_cutMany iM_allBreaths rM_trial rM_words iM_fewestBreaths iM_orderMany iM_orderSum iM_leastOrder rM_often iM_setMany iM_someOf iM_allOf iM_allWeight iM_enoughWeight iM_worthSum iM_firstRest iM_leastDrawn z_7074 b_iM_taped b_iM_size b_iM_end b_iM_failed b_iM_hasCourt b_iM_undos b_iM_images b_iM_scale b_iM_breaths b_iM_cutMany (by assumption) (by assumption) (by assumption) (by assumption) (by assumption) ⟨gc_7077, hi0_n_7076.2⟩ hnt) (cwV 1 hts (wd_V wd_670 wd_671 wd_672 wd_5 (wd_c wd_673)) rfl rfl rfl dv_yX7_bestOf_1 ⟨Nat.le_of_ble_eq_true rfl, Nat.le_of_ble_eq_true rfl⟩) ⟨Pw.fb, recvX7 hK hP (q0 := 0) rfl, fun U hU hW => Pw.to hP hD hK hE hS hFc hU hW⟩ rfl rfl hl.1 rfl (lv_room (Nat.le_of_ble_eq_true rfl)) dX7_line_40 ⟨Nat.le_of_ble_eq_true rfl, Nat.le_of_ble_eq_true rfl⟩) hS (fun q _ h => hFc q h) hFc (fun r u t H locs ht hvm hw hB hz1 hk1 hS => ?_)
            have hru9 := hw.2
            have hw := hw.1
            obtain ⟨hP, hD⟩ := Bw.goA (ws' := [(oc7 oM x_7066 rM_tape iM_taped iM_size iM_at iM_end iM_token iM_whole iM_nameSize iM_fault iM_place x_7067 rM_letters iM_failed iM_hasCourt rM_r rM_fresh rM_told rM_read rM_st rM_undone rM_kept iM_undos iM_images rM_fresher iM_fresherSize iM_scale iM_night rM_heardRow rM_cutRow iM_breaths iM_cutMany iM_allBreaths rM_trial rM_words iM_fewestBreaths iM_orderMany iM_orderSum iM_leastOrder rM_often iM_setMany iM_someOf iM_allOf iM_allWeight iM_enoughWeight iM_worthSum iM_firstRest iM_leastDrawn), (arI rM_r kM_r 287 fM_r), (arI rM_told kM_told 90 fM_told), (arI rM_st kM_st 90 fM_st)]) hB rfl ht hFc rfl
            clear hz1 hk1 hvm ht hB
            obtain ⟨x_7079, rfl⟩ : ∃ z, z = r := ⟨_, rfl⟩
            have hG := hG.trans (lt_eq hru9.symm)
            have lx_7079 := hw.2
            have ux_7079 := hw.2
            refine lv_istore_n (lv' := [(2, .int x_7079), (1, .int x_7078), (0, .ref oM)]) hx hb dX7_line_43 rfl hl (by decide) rfl (fun ls hl => ?_)
            refine lv_goto (tgt := 31) hx hb dX7_line_44 (by decide) ?_
            exact ih_n_7076 x_7079 x_7078 _ _ _  ⟨lx_7079.1, (om_90a71968 hi0_n_7076.2 lx_7079.2.1)⟩ (ms_lt hm_n_7076 (om_27cbe1c0 lx_7079.2.1) (om_9734b4e0 hi0_n_7076.1)) hG hP hD hS (lv_sub hl [0, 1, 2] rfl)
      exact key_n_7076 (((x_7073.toInt + 3).toNat) + 1) x_7073 1 _ _ _  ⟨lx_7073.1, (om_2d06027e r_C1.2.2 cx_7072 lx_7073.2.1)⟩ (Nat.lt_add_one _) hG hP hD hS hl
    · skip
      have hG := hG.trans (if_pos c_7071)
      have gc_7071 := ti_eq c_7071 rfl kc_0
      refine lv_aload_n hx hb dX7_line_11 rfl (lv_at hl 0 rfl) ?_
      refine lv_iconst (v := 1) hx hb dX7_line_12 (by decide) ?_
      have hMs := ml_of hD [true, false, false, false] (wc := [(oc7 oM x_7066 rM_tape iM_taped iM_size iM_at iM_end iM_token iM_whole iM_nameSize iM_fault iM_place x_7067 rM_letters iM_failed iM_hasCourt rM_r rM_fresh rM_told rM_read rM_st rM_undone rM_kept iM_undos iM_images rM_fresher iM_fresherSize iM_scale iM_night rM_heardRow rM_cutRow iM_breaths iM_cutMany iM_allBreaths rM_trial rM_words iM_fewestBreaths iM_orderMany iM_orderSum iM_leastOrder rM_often iM_setMany iM_someOf iM_allOf iM_allWeight iM_enoughWeight iM_worthSum iM_firstRest iM_leastDrawn)]) rfl
      have hFc := va_freeM hD hS hA _ hMs
      refine va_calli (va_runV (As := [.int 1]) (rest := []) ⟨hx, hb, hml, hown, hts⟩ (tX7_no l dC dI _ oM x_7066 rM_tape iM_taped iM_size iM_at iM_end iM_token iM_whole iM_nameSize iM_fault iM_place x_7067 rM_letters iM_failed iM_hasCourt rM_r rM_fresh rM_told rM_read rM_st rM_undone rM_kept iM_undos iM_images rM_fresher iM_fresherSize iM_scale iM_night rM_heardRow rM_cutRow iM_breaths iM_cutMany iM_allBreaths rM_trial rM_words iM_fewestBreaths iM_orderMany iM_orderSum iM_leastOrder rM_often iM_setMany iM_someOf iM_allOf iM_allWeight iM_enoughWeight iM_worthSum iM_firstRest iM_leastDrawn 1 b_iM_taped b_iM_size b_iM_end b_iM_failed b_iM_hasCourt b_iM_undos b_iM_images b_iM_scale b_iM_breaths b_iM_cutMany) (cwV 1 hts (wd_V wd_396 wd_397 wd_398 wd_5 (wd_c wd_399)) rfl rfl rfl dv_yX7_no_1 ⟨Nat.le_of_ble_eq_true rfl, Nat.le_of_ble_eq_true rfl⟩) ⟨Pw.fb, recvX7 hK hP (q0 := 0) rfl, fun U hU hW => Pw.to (hP.ms _ hMs) (hD.ms _ hMs) (hK.ms [false, false, false] rfl) hE hS hFc hU hW⟩ rfl rfl hl.1 rfl (lv_room (Nat.le_of_ble_eq_true rfl)) dX7_line_13 ⟨Nat.le_of_ble_eq_true rfl, Nat.le_of_ble_eq_true rfl⟩) hS (fun q _ h => hFc q h) hFc (fun r u t H locs ht hvm hw hB hz1 hk1 hS => ?_)
      have hru9 := hw.2
      have hw := hw.1
      refine ex_1_1 hB (fun x_7080 e_x_7080_0 hB => ?_)
      obtain ⟨hP, hD⟩ := Bw.goN (ws' := [(oc7 oM x_7066 rM_tape iM_taped iM_size iM_at iM_end iM_token iM_whole iM_nameSize iM_fault iM_place x_7080 rM_letters iM_failed iM_hasCourt rM_r rM_fresh rM_told rM_read rM_st rM_undone rM_kept iM_undos iM_images rM_fresher iM_fresherSize iM_scale iM_night rM_heardRow rM_cutRow iM_breaths iM_cutMany iM_allBreaths rM_trial rM_words iM_fewestBreaths iM_orderMany iM_orderSum iM_leastOrder rM_often iM_setMany iM_someOf iM_allOf iM_allWeight iM_enoughWeight iM_worthSum iM_firstRest iM_leastDrawn), (arI rM_r kM_r 287 fM_r), (arI rM_told kM_told 90 fM_told), (arI rM_st kM_st 90 fM_st)]) hB rfl ht hP hD _ hMs hk1 hFc rfl
      clear hz1 hk1 hvm ht hB hMs
      rw [← hru9] at e_x_7080_0
      obtain ⟨x_7081, rfl⟩ : ∃ z, z = r := ⟨_, rfl⟩
      have hG := hG.trans (un2_eq e_x_7080_0)
      exact wq_i hx hb hr (cI x_7081) ⟨⟨trivial, trivial⟩, (cI_of x_7081)⟩ (fun t ht hW => ⟨x_7066, x_7080, (cI_tup hG), Bw.to hP hD hK ht hW⟩) hS dX7_line_16 hlocks
set_option maxHeartbeats 4000000 in
set_option maxRecDepth 100000 in
theorem tX7_lineAt (l : Launch) (dC : Nat → ClassId) (dI : Nat → Nat → Nat) (sz : Nat) (oM : Nat) (iM_thrown : Int32) (rM_tape : Nat) (iM_taped : Int32) (iM_size : Int32) (iM_at : Int32) (iM_end : Int32) (iM_token : Int32) (iM_whole : Int32) (iM_nameSize : Int32) (iM_fault : Int32) (iM_place : Int32) (iM_trouble : Int32) (rM_letters : Nat) (iM_failed : Int32) (iM_hasCourt : Int32) (rM_r : Nat) (fM_r : Nat → Int32) (kM_r : ClassId) (rM_fresh : Nat) (rM_told : Nat) (fM_told : Nat → Int32) (kM_told : ClassId) (rM_read : Nat) (rM_st : Nat) (fM_st : Nat → Int32) (kM_st : ClassId) (rM_undone : Nat) (rM_kept : Nat) (iM_undos : Int32) (iM_images : Int32) (rM_fresher : Nat) (iM_fresherSize : Int32) (iM_scale : Int32) (iM_night : Int32) (rM_heardRow : Nat) (rM_cutRow : Nat) (iM_breaths : Int32) (iM_cutMany : Int32) (iM_allBreaths : Int32) (rM_trial : Nat) (rM_words : Nat) (iM_fewestBreaths : Int32) (iM_orderMany : Int32) (iM_orderSum : Int32) (iM_leastOrder : Int32) (rM_often : Nat) (iM_setMany : Int32) (iM_someOf : Int32) (iM_allOf : Int32) (iM_allWeight : Int64) (iM_enoughWeight : Int64) (iM_worthSum : Int64) (iM_firstRest : Int32) (iM_leastDrawn : Int32) (p0 : Int32) (b_iM_taped : 0 ≤ iM_taped.toInt ∧ iM_taped.toInt ≤ 900) (b_iM_size : 0 ≤ iM_size.toInt ∧ iM_size.toInt ≤ 900) (b_iM_end : 0 ≤ iM_end.toInt ∧ iM_end.toInt ≤ 900) (b_iM_failed : 0 ≤ iM_failed.toInt ∧ iM_failed.toInt ≤ 1) (b_iM_hasCourt : 0 ≤ iM_hasCourt.toInt ∧ iM_hasCourt.toInt ≤ 1) (b_iM_undos : 0 ≤ iM_undos.toInt ∧ iM_undos.toInt ≤ 16) (b_iM_images : 0 ≤ iM_images.toInt ∧ iM_images.toInt ≤ 3) (b_iM_scale : 1 ≤ iM_scale.toInt ∧ iM_scale.toInt ≤ 1296) (b_iM_breaths : 0 ≤ iM_breaths.toInt ∧ iM_breaths.toInt ≤ 399) (b_iM_cutMany : 0 ≤ iM_cutMany.toInt ∧ iM_cutMany.toInt ≤ 399) (r_R : ROk fM_r) (r_C : iM_hasCourt.toInt ≤ 0 ∨ (1 ≤ (fM_r 1).toInt ∧ 0 ≤ (fM_r 6).toInt ∧ (fM_r 6).toInt < (fM_r 1).toInt)) (r_st : RowOk fM_r fM_st) (r_told : RowOk fM_r fM_told) (r_wst : WorOk fM_st) (hnt : iM_night.toInt = -1) : Met l yX7_lineAt (Cond.code yX7_lineAt cX7_lineAt 4 (some .int) :: wG) ({ frames := 22, cells := 0, slots := 0, locals := 586 }) (va_Pc [.ref oM, .int p0] (Pw dC dI sz [(oc7 oM iM_thrown rM_tape iM_taped iM_size iM_at iM_end iM_token iM_whole iM_nameSize iM_fault iM_place iM_trouble rM_letters iM_failed iM_hasCourt rM_r rM_fresh rM_told rM_read rM_st rM_undone rM_kept iM_undos iM_images rM_fresher iM_fresherSize iM_scale iM_night rM_heardRow rM_cutRow iM_breaths iM_cutMany iM_allBreaths rM_trial rM_words iM_fewestBreaths iM_orderMany iM_orderSum iM_leastOrder rM_often iM_setMany iM_someOf iM_allOf iM_allWeight iM_enoughWeight iM_worthSum iM_firstRest iM_leastDrawn), (arI rM_r kM_r 287 fM_r), (arI rM_told kM_told 90 fM_told), (arI rM_st kM_st 90 fM_st)] [(kM_r, .int), (kM_told, .int), (kM_st, .int)])) (va_Qi (fun (r : Int32) (u : Nat) => (True ∧ True) ∧ r = Int32.ofNat u) (fun (u : Nat) (t : State) => ∃ (niM_thrown : Int32) (niM_trouble : Int32), (PX7_lineAt iM_hasCourt fM_r fM_told fM_st iM_scale iM_night p0 = (Int32.ofNat u, niM_thrown, niM_trouble)) ∧ Bw dC dI (va_A [(oc7 oM iM_thrown rM_tape iM_taped iM_size iM_at iM_end iM_token iM_whole iM_nameSize iM_fault iM_place iM_trouble rM_letters iM_failed iM_hasCourt rM_r rM_fresh rM_told rM_read rM_st rM_undone rM_kept iM_undos iM_images rM_fresher iM_fresherSize iM_scale iM_night rM_heardRow rM_cutRow iM_breaths iM_cutMany iM_allBreaths rM_trial rM_words iM_fewestBreaths iM_orderMany iM_orderSum iM_leastOrder rM_often iM_setMany iM_someOf iM_allOf iM_allWeight iM_enoughWeight iM_worthSum iM_firstRest iM_leastDrawn), (arI rM_r kM_r 287 fM_r), (arI rM_told kM_told 90 fM_told), (arI rM_st kM_st 90 fM_st)] sz) [(oc7 oM niM_thrown rM_tape iM_taped iM_size iM_at iM_end iM_token iM_whole iM_nameSize iM_fault iM_place niM_trouble rM_letters iM_failed iM_hasCourt rM_r rM_fresh rM_told rM_read rM_st rM_undone rM_kept iM_undos iM_images rM_fresher iM_fresherSize iM_scale iM_night rM_heardRow rM_cutRow iM_breaths iM_cutMany iM_allBreaths rM_trial rM_words iM_fewestBreaths iM_orderMany iM_orderSum iM_leastOrder rM_often iM_setMany iM_someOf iM_allOf iM_allWeight iM_enoughWeight iM_worthSum iM_firstRest iM_leastDrawn), (arI rM_r kM_r 287 fM_r), (arI rM_told kM_told 90 fM_told), (arI rM_st kM_st 90 fM_st)] [(kM_r, .int), (kM_told, .int), (kM_st, .int)] t) (va_A [(oc7 oM iM_thrown rM_tape iM_taped iM_size iM_at iM_end iM_token iM_whole iM_nameSize iM_fault iM_place iM_trouble rM_letters iM_failed iM_hasCourt rM_r rM_fresh rM_told rM_read rM_st rM_undone rM_kept iM_undos iM_images rM_fresher iM_fresherSize iM_scale iM_night rM_heardRow rM_cutRow iM_breaths iM_cutMany iM_allBreaths rM_trial rM_words iM_fewestBreaths iM_orderMany iM_orderSum iM_leastOrder rM_often iM_setMany iM_someOf iM_allOf iM_allWeight iM_enoughWeight iM_worthSum iM_firstRest iM_leastDrawn), (arI rM_r kM_r 287 fM_r), (arI rM_told kM_told 90 fM_told), (arI rM_st kM_st 90 fM_st)] sz)) 0 0 (va_A [(oc7 oM iM_thrown rM_tape iM_taped iM_size iM_at iM_end iM_token iM_whole iM_nameSize iM_fault iM_place iM_trouble rM_letters iM_failed iM_hasCourt rM_r rM_fresh rM_told rM_read rM_st rM_undone rM_kept iM_undos iM_images rM_fresher iM_fresherSize iM_scale iM_night rM_heardRow rM_cutRow iM_breaths iM_cutMany iM_allBreaths rM_trial rM_words iM_fewestBreaths iM_orderMany iM_orderSum iM_leastOrder rM_often iM_setMany iM_someOf iM_allOf iM_allWeight iM_enoughWeight iM_worthSum iM_firstRest iM_leastDrawn), (arI rM_r kM_r 287 fM_r), (arI rM_told kM_told 90 fM_told), (arI rM_st kM_st 90 fM_st)] sz) := by
  refine Met.ofW (cc := cX7_lineAt) (maxL := 4) (ret := (some .int)) pnX7 rfl ?_
  intro p e s m args below meth c s₁ B hml hv
  obtain ⟨rfl, hsz, hP, hK, hD0, hE⟩ := hv
  have hx := B.exec
  have hb := B.bytes
  have hr := B.returns
  have hts : ∀ w ∈ wG, w.before ([.ref oM, .int p0] : List Value).toArray s = true := fun w h => atoms_spec (ws := Cond.code yX7_lineAt cX7_lineAt 4 (some .int) :: wG) B.pre w (List.mem_cons_of_mem _ h)
  have hown : s.vm.findClass RX7 = some m.cls := own_of B.named rfl
  have hlocks := B.notSynchronized
  subst hsz
  have hD := hD0.self (sz := s.heap.size)
  generalize hAe : va_A [(oc7 oM iM_thrown rM_tape iM_taped iM_size iM_at iM_end iM_token iM_whole iM_nameSize iM_fault iM_place iM_trouble rM_letters iM_failed iM_hasCourt rM_r rM_fresh rM_told rM_read rM_st rM_undone rM_kept iM_undos iM_images rM_fresher iM_fresherSize iM_scale iM_night rM_heardRow rM_cutRow iM_breaths iM_cutMany iM_allBreaths rM_trial rM_words iM_fewestBreaths iM_orderMany iM_orderSum iM_leastOrder rM_often iM_setMany iM_someOf iM_allOf iM_allWeight iM_enoughWeight iM_worthSum iM_firstRest iM_leastDrawn), (arI rM_r kM_r 287 fM_r), (arI rM_told kM_told 90 fM_told), (arI rM_st kM_st 90 fM_st)] s.heap.size = A at hD hE ⊢
  have hA : ∀ q : Nat, s.heap.size ≤ q → A q := fun q h => by rw [← hAe]; exact Or.inr h
  have hS : va_S A s.heap s.heap [] := va_S.rf
  have hl := lv_entry ([.ref oM, .int p0]) (n := 4) (Nat.le_of_ble_eq_true rfl)
  rw [lg_entry_eq]
  generalize (lg_sl ([.ref oM, .int p0]) ++ List.replicate (4 - (lg_sl ([.ref oM, .int p0])).length) Slot.unset).toArray = ls at hl ⊢
  have hl : lv_has ls 4 [(0, .ref oM), (1, .int p0)] := hl
  have hG := PX7_lineAt_eq iM_hasCourt fM_r fM_told fM_st iM_scale iM_night p0
  have rg_p0 := fb_rng p0
  have s_slips := r_R.slips
  have s_nodes := r_R.nodes
  have s_uns := r_R.uns
  refine lv_aload_n hx hb dX7_lineAt_0 rfl (lv_at hl 0 rfl) ?_
  have hMs := ml_of hD [true, false, false, false] (wc := [(oc7 oM iM_thrown rM_tape iM_taped iM_size iM_at iM_end iM_token iM_whole iM_nameSize iM_fault iM_place iM_trouble rM_letters iM_failed iM_hasCourt rM_r rM_fresh rM_told rM_read rM_st rM_undone rM_kept iM_undos iM_images rM_fresher iM_fresherSize iM_scale iM_night rM_heardRow rM_cutRow iM_breaths iM_cutMany iM_allBreaths rM_trial rM_words iM_fewestBreaths iM_orderMany iM_orderSum iM_leastOrder rM_often iM_setMany iM_someOf iM_allOf iM_allWeight iM_enoughWeight iM_worthSum iM_firstRest iM_leastDrawn)]) rfl
  have hFc := va_freeM hD hS hA _ hMs
  refine va_callv (va_runV (As := []) (rest := []) ⟨hx, hb, hml, hown, hts⟩ (tX7_good l dC dI _ oM iM_thrown rM_tape iM_taped iM_size iM_at iM_end iM_token iM_whole iM_nameSize iM_fault iM_place iM_trouble rM_letters iM_failed iM_hasCourt rM_r rM_fresh rM_told rM_read rM_st rM_undone rM_kept iM_undos iM_images rM_fresher iM_fresherSize iM_scale iM_night rM_heardRow rM_cutRow iM_breaths iM_cutMany iM_allBreaths rM_trial rM_words iM_fewestBreaths iM_orderMany iM_orderSum iM_leastOrder rM_often iM_setMany iM_someOf iM_allOf iM_allWeight iM_enoughWeight iM_worthSum iM_firstRest iM_leastDrawn b_iM_taped b_iM_size b_iM_end b_iM_failed b_iM_hasCourt b_iM_undos b_iM_images b_iM_scale b_iM_breaths b_iM_cutMany) (cwV 0 hts (wd_V wd_388 wd_389 wd_390 wd_5 (wd_c wd_391)) rfl rfl rfl dv_yX7_good_0 ⟨Nat.le_of_ble_eq_true rfl, Nat.le_of_ble_eq_true rfl⟩) ⟨Pw.fb, recvX7 hK hP (q0 := 0) rfl, fun U hU hW => Pw.to (hP.ms _ hMs) (hD.ms _ hMs) (hK.ms [false, false, false] rfl) hE hS hFc hU hW⟩ rfl rfl hl.1 rfl (lv_room (Nat.le_of_ble_eq_true rfl)) dX7_lineAt_1 ⟨Nat.le_of_ble_eq_true rfl, Nat.le_of_ble_eq_true rfl⟩) hS (fun q _ h => hFc q h) hFc (fun u t H locs ht hvm hw hB hz1 hk1 hS => ?_)
  refine ex_2_3 hB (fun x_7129 x_7130 b_x_7129 b_x_7130 e_x_7129_0 hB => ?_)
  obtain ⟨hP, hD⟩ := Bw.goN (ws' := [(oc7 oM x_7129 rM_tape iM_taped iM_size iM_at iM_end iM_token iM_whole iM_nameSize iM_fault iM_place x_7130 rM_letters iM_failed iM_hasCourt rM_r rM_fresh rM_told rM_read rM_st rM_undone rM_kept iM_undos iM_images rM_fresher iM_fresherSize iM_scale iM_night rM_heardRow rM_cutRow iM_breaths iM_cutMany iM_allBreaths rM_trial rM_words iM_fewestBreaths iM_orderMany iM_orderSum iM_leastOrder rM_often iM_setMany iM_someOf iM_allOf iM_allWeight iM_enoughWeight iM_worthSum iM_firstRest iM_leastDrawn), (arI rM_r kM_r 287 fM_r), (arI rM_told kM_told 90 fM_told), (arI rM_st kM_st 90 fM_st)]) hB rfl ht hP hD _ hMs hk1 hFc rfl
  clear hz1 hk1 hvm ht hB hMs
  have rg_x_7129 := fb_rng x_7129
  have rg_x_7130 := fb_rng x_7130
  have hG := hG.trans (un2_eq e_x_7129_0)
  refine lv_aload_n hx hb dX7_lineAt_4 rfl (lv_at hl 0 rfl) ?_
  rcases (id r_C) with r_C0 | r_C1
  · skip
    refine va_get (D := (dC, dI)) (ci := 7) (v := .int iM_hasCourt) (C := RX7) (T := TX7) (N := 48) hx hb hts inX7 hown hK hP 0 rfl rfl 14 (by decide) (hts _ wd_385) (fun _ h9 => h9) rfl dX7_lineAt_5 ?_
    have rg_iM_hasCourt := fb_rng iM_hasCourt
    refine lv_if_eq (tgt := 15) hx hb dX7_lineAt_8 (by decide) (fun c_7131 => ?_) (fun c_7131 => ?_)
    · skip
      have hG := hG.trans (if_pos c_7131)
      have gc_7131 := ti_eq c_7131 rfl kc_0
      refine lv_aload_n hx hb dX7_lineAt_15 rfl (lv_at hl 0 rfl) ?_
      refine lv_iconst (v := 1) hx hb dX7_lineAt_16 (by decide) ?_
      have hMs := ml_of hD [true, false, false, false] (wc := [(oc7 oM x_7129 rM_tape iM_taped iM_size iM_at iM_end iM_token iM_whole iM_nameSize iM_fault iM_place x_7130 rM_letters iM_failed iM_hasCourt rM_r rM_fresh rM_told rM_read rM_st rM_undone rM_kept iM_undos iM_images rM_fresher iM_fresherSize iM_scale iM_night rM_heardRow rM_cutRow iM_breaths iM_cutMany iM_allBreaths rM_trial rM_words iM_fewestBreaths iM_orderMany iM_orderSum iM_leastOrder rM_often iM_setMany iM_someOf iM_allOf iM_allWeight iM_enoughWeight iM_worthSum iM_firstRest iM_leastDrawn)]) rfl
      have hFc := va_freeM hD hS hA _ hMs
      refine va_calli (va_runV (As := [.int 1]) (rest := []) ⟨hx, hb, hml, hown, hts⟩ (tX7_no l dC dI _ oM x_7129 rM_tape iM_taped iM_size iM_at iM_end iM_token iM_whole iM_nameSize iM_fault iM_place x_7130 rM_letters iM_failed iM_hasCourt rM_r rM_fresh rM_told rM_read rM_st rM_undone rM_kept iM_undos iM_images rM_fresher iM_fresherSize iM_scale iM_night rM_heardRow rM_cutRow iM_breaths iM_cutMany iM_allBreaths rM_trial rM_words iM_fewestBreaths iM_orderMany iM_orderSum iM_leastOrder rM_often iM_setMany iM_someOf iM_allOf iM_allWeight iM_enoughWeight iM_worthSum iM_firstRest iM_leastDrawn 1 b_iM_taped b_iM_size b_iM_end b_iM_failed b_iM_hasCourt b_iM_undos b_iM_images b_iM_scale b_iM_breaths b_iM_cutMany) (cwV 1 hts (wd_V wd_396 wd_397 wd_398 wd_5 (wd_c wd_399)) rfl rfl rfl dv_yX7_no_1 ⟨Nat.le_of_ble_eq_true rfl, Nat.le_of_ble_eq_true rfl⟩) ⟨Pw.fb, recvX7 hK hP (q0 := 0) rfl, fun U hU hW => Pw.to (hP.ms _ hMs) (hD.ms _ hMs) (hK.ms [false, false, false] rfl) hE hS hFc hU hW⟩ rfl rfl hl.1 rfl (lv_room (Nat.le_of_ble_eq_true rfl)) dX7_lineAt_17 ⟨Nat.le_of_ble_eq_true rfl, Nat.le_of_ble_eq_true rfl⟩) hS (fun q _ h => hFc q h) hFc (fun r u t H locs ht hvm hw hB hz1 hk1 hS => ?_)
      have hru9 := hw.2
      have hw := hw.1
      refine ex_1_1 hB (fun x_7132 e_x_7132_0 hB => ?_)
      obtain ⟨hP, hD⟩ := Bw.goN (ws' := [(oc7 oM x_7129 rM_tape iM_taped iM_size iM_at iM_end iM_token iM_whole iM_nameSize iM_fault iM_place x_7132 rM_letters iM_failed iM_hasCourt rM_r rM_fresh rM_told rM_read rM_st rM_undone rM_kept iM_undos iM_images rM_fresher iM_fresherSize iM_scale iM_night rM_heardRow rM_cutRow iM_breaths iM_cutMany iM_allBreaths rM_trial rM_words iM_fewestBreaths iM_orderMany iM_orderSum iM_leastOrder rM_often iM_setMany iM_someOf iM_allOf iM_allWeight iM_enoughWeight iM_worthSum iM_firstRest iM_leastDrawn), (arI rM_r kM_r 287 fM_r), (arI rM_told kM_told 90 fM_told), (arI rM_st kM_st 90 fM_st)]) hB rfl ht hP hD _ hMs hk1 hFc rfl
      clear hz1 hk1 hvm ht hB hMs
      have rg_x_7132 := fb_rng x_7132
      rw [← hru9] at e_x_7132_0
      obtain ⟨x_7133, rfl⟩ : ∃ z, z = r := ⟨_, rfl⟩
      have hG := hG.trans (un2_eq e_x_7132_0)
      have rg_x_7133 := fb_rng x_7133
      exact wq_i hx hb hr (cI x_7133) ⟨⟨trivial, trivial⟩, (cI_of x_7133)⟩ (fun t ht hW => ⟨x_7129, x_7132, (cI_tup hG), Bw.to hP hD hK ht hW⟩) hS dX7_lineAt_20 hlocks
    · skip
      have hG := hG.trans (if_neg c_7131)
      have gc_7131 := ti_ne c_7131 rfl kc_0
      replace gc_7131 : iM_hasCourt.toInt + 1 ≤ 0 := om_c7c1b1e9 gc_7131 r_C0
      exact ((om_5185113d b_iM_hasCourt.1 gc_7131)).elim
  · skip
    refine va_get (D := (dC, dI)) (ci := 7) (v := .int iM_hasCourt) (C := RX7) (T := TX7) (N := 48) hx hb hts inX7 hown hK hP 0 rfl rfl 14 (by decide) (hts _ wd_385) (fun _ h9 => h9) rfl dX7_lineAt_5 ?_
    have rg_iM_hasCourt := fb_rng iM_hasCourt
    refine lv_if_eq (tgt := 15) hx hb dX7_lineAt_8 (by decide) (fun c_7134 => ?_) (fun c_7134 => ?_)
    · skip
      have hG := hG.trans (if_pos c_7134)
      have gc_7134 := ti_eq c_7134 rfl kc_0
      refine lv_aload_n hx hb dX7_lineAt_15 rfl (lv_at hl 0 rfl) ?_
      refine lv_iconst (v := 1) hx hb dX7_lineAt_16 (by decide) ?_
      have hMs := ml_of hD [true, false, false, false] (wc := [(oc7 oM x_7129 rM_tape iM_taped iM_size iM_at iM_end iM_token iM_whole iM_nameSize iM_fault iM_place x_7130 rM_letters iM_failed iM_hasCourt rM_r rM_fresh rM_told rM_read rM_st rM_undone rM_kept iM_undos iM_images rM_fresher iM_fresherSize iM_scale iM_night rM_heardRow rM_cutRow iM_breaths iM_cutMany iM_allBreaths rM_trial rM_words iM_fewestBreaths iM_orderMany iM_orderSum iM_leastOrder rM_often iM_setMany iM_someOf iM_allOf iM_allWeight iM_enoughWeight iM_worthSum iM_firstRest iM_leastDrawn)]) rfl
      have hFc := va_freeM hD hS hA _ hMs
      refine va_calli (va_runV (As := [.int 1]) (rest := []) ⟨hx, hb, hml, hown, hts⟩ (tX7_no l dC dI _ oM x_7129 rM_tape iM_taped iM_size iM_at iM_end iM_token iM_whole iM_nameSize iM_fault iM_place x_7130 rM_letters iM_failed iM_hasCourt rM_r rM_fresh rM_told rM_read rM_st rM_undone rM_kept iM_undos iM_images rM_fresher iM_fresherSize iM_scale iM_night rM_heardRow rM_cutRow iM_breaths iM_cutMany iM_allBreaths rM_trial rM_words iM_fewestBreaths iM_orderMany iM_orderSum iM_leastOrder rM_often iM_setMany iM_someOf iM_allOf iM_allWeight iM_enoughWeight iM_worthSum iM_firstRest iM_leastDrawn 1 b_iM_taped b_iM_size b_iM_end b_iM_failed b_iM_hasCourt b_iM_undos b_iM_images b_iM_scale b_iM_breaths b_iM_cutMany) (cwV 1 hts (wd_V wd_396 wd_397 wd_398 wd_5 (wd_c wd_399)) rfl rfl rfl dv_yX7_no_1 ⟨Nat.le_of_ble_eq_true rfl, Nat.le_of_ble_eq_true rfl⟩) ⟨Pw.fb, recvX7 hK hP (q0 := 0) rfl, fun U hU hW => Pw.to (hP.ms _ hMs) (hD.ms _ hMs) (hK.ms [false, false, false] rfl) hE hS hFc hU hW⟩ rfl rfl hl.1 rfl (lv_room (Nat.le_of_ble_eq_true rfl)) dX7_lineAt_17 ⟨Nat.le_of_ble_eq_true rfl, Nat.le_of_ble_eq_true rfl⟩) hS (fun q _ h => hFc q h) hFc (fun r u t H locs ht hvm hw hB hz1 hk1 hS => ?_)
      have hru9 := hw.2
      have hw := hw.1
      refine ex_1_1 hB (fun x_7135 e_x_7135_0 hB => ?_)
      obtain ⟨hP, hD⟩ := Bw.goN (ws' := [(oc7 oM x_7129 rM_tape iM_taped iM_size iM_at iM_end iM_token iM_whole iM_nameSize iM_fault iM_place x_7135 rM_letters iM_failed iM_hasCourt rM_r rM_fresh rM_told rM_read rM_st rM_undone rM_kept iM_undos iM_images rM_fresher iM_fresherSize iM_scale iM_night rM_heardRow rM_cutRow iM_breaths iM_cutMany iM_allBreaths rM_trial rM_words iM_fewestBreaths iM_orderMany iM_orderSum iM_leastOrder rM_often iM_setMany iM_someOf iM_allOf iM_allWeight iM_enoughWeight iM_worthSum iM_firstRest iM_leastDrawn), (arI rM_r kM_r 287 fM_r), (arI rM_told kM_told 90 fM_told), (arI rM_st kM_st 90 fM_st)]) hB rfl ht hP hD _ hMs hk1 hFc rfl
      clear hz1 hk1 hvm ht hB hMs
      have rg_x_7135 := fb_rng x_7135
      rw [← hru9] at e_x_7135_0
      obtain ⟨x_7136, rfl⟩ : ∃ z, z = r := ⟨_, rfl⟩
      have hG := hG.trans (un2_eq e_x_7135_0)
      have rg_x_7136 := fb_rng x_7136
      exact wq_i hx hb hr (cI x_7136) ⟨⟨trivial, trivial⟩, (cI_of x_7136)⟩ (fun t ht hW => ⟨x_7129, x_7135, (cI_tup hG), Bw.to hP hD hK ht hW⟩) hS dX7_lineAt_20 hlocks
    · skip
      have hG := hG.trans (if_neg c_7134)
      have gc_7134 := ti_ne c_7134 rfl kc_0
      replace gc_7134 : (-1) * iM_hasCourt.toInt + 1 ≤ 0 := om_e3003f79 gc_7134 b_iM_hasCourt.1
      refine lv_iload_n hx hb dX7_lineAt_11 rfl (lv_at hl 1 rfl) ?_
      refine lv_if_ge (tgt := 21) hx hb dX7_lineAt_12 (by decide) (fun c_7137 => ?_) (fun c_7137 => ?_)
      · skip
        have hG := hG.trans (if_pos c_7137)
        have gc_7137 := ti_le c_7137 kc_0 rfl
        refine lv_aload_n hx hb dX7_lineAt_21 rfl (lv_at hl 0 rfl) ?_
        refine va_get (D := (dC, dI)) (ci := 7) (v := .ref rM_r) (C := RX7) (T := TX7) (N := 48) hx hb hts inX7 hown hK hP 0 rfl rfl 15 (by decide) (hts _ wd_155) (fun _ h9 => h9) rfl dX7_lineAt_22 ?_
        refine lv_bipush (v := 6) hx hb dX7_lineAt_25 (by decide) ?_
        refine va_iald hx hb hK hP 1 0 rfl rfl (by unfold vp_in; decide) dX7_lineAt_27 ?_
        refine lv_topi (fun x_7138 ex_7138 => ?_)
        have hG := hG.trans (lt_eq ex_7138)
        have rg_x_7138 := fb_rng x_7138
        have cx_7138 : (fM_r 6).toInt = x_7138.toInt := congrArg Int32.toInt (show fM_r 6 = x_7138 from ex_7138.symm)
        refine lv_istore_n (lv' := [(2, .int x_7138), (0, .ref oM), (1, .int p0)]) hx hb dX7_lineAt_28 rfl hl (by decide) rfl (fun ls hl => ?_)
        refine lv_iconst (v := 0) hx hb dX7_lineAt_29 (by decide) ?_
        refine lv_istore_n (lv' := [(3, .int 0), (2, .int x_7138), (0, .ref oM), (1, .int p0)]) hx hb dX7_lineAt_30 rfl hl (by decide) rfl (fun ls hl => ?_)
        have hl := lv_sub hl (l' := [(3, .int 0), (2, .int x_7138), (0, .ref oM), (1, .int p0)]) [0, 1, 2, 3] rfl
        have key_n_7141 : ∀ (n_7141 : Nat) (z_7139 : Int32) (z_7140 : Int32) (H : Heap) (locs : List Loc) (ls : Array Slot), (-2 ≤ z_7139.toInt ∧ z_7139.toInt < (fM_r 1).toInt) → (z_7139.toInt + 3).toNat < n_7141 → (PX7_lineAt iM_hasCourt fM_r fM_told fM_st iM_scale iM_night p0 = HX7_lineAt_0 fM_r fM_told fM_st iM_scale iM_night p0 x_7129 x_7130 n_7141 z_7139 z_7140) → va_P (dC, dI) vwCl [(oc7 oM x_7129 rM_tape iM_taped iM_size iM_at iM_end iM_token iM_whole iM_nameSize iM_fault iM_place x_7130 rM_letters iM_failed iM_hasCourt rM_r rM_fresh rM_told rM_read rM_st rM_undone rM_kept iM_undos iM_images rM_fresher iM_fresherSize iM_scale iM_night rM_heardRow rM_cutRow iM_breaths iM_cutMany iM_allBreaths rM_trial rM_words iM_fewestBreaths iM_orderMany iM_orderSum iM_leastOrder rM_often iM_setMany iM_someOf iM_allOf iM_allWeight iM_enoughWeight iM_worthSum iM_firstRest iM_leastDrawn), (arI rM_r kM_r 287 fM_r), (arI rM_told kM_told 90 fM_told), (arI rM_st kM_st 90 fM_st)] H → va_D A [(oc7 oM x_7129 rM_tape iM_taped iM_size iM_at iM_end iM_token iM_whole iM_nameSize iM_fault iM_place x_7130 rM_letters iM_failed iM_hasCourt rM_r rM_fresh rM_told rM_read rM_st rM_undone rM_kept iM_undos iM_images rM_fresher iM_fresherSize iM_scale iM_night rM_heardRow rM_cutRow iM_breaths iM_cutMany iM_allBreaths rM_trial rM_words iM_fewestBreaths iM_orderMany iM_orderSum iM_leastOrder rM_often iM_setMany iM_someOf iM_allOf iM_allWeight iM_enoughWeight iM_worthSum iM_firstRest iM_leastDrawn), (arI rM_r kM_r 287 fM_r), (arI rM_told kM_told 90 fM_told), (arI rM_st kM_st 90 fM_st)] → va_S A s.heap H locs → lv_has ls 4 [(3, .int z_7140), (2, .int z_7139), (0, .ref oM), (1, .int p0)] → W p l e (headSpec (Cond.code yX7_lineAt cX7_lineAt 4 (some .int) :: wG) ({ frames := 22, cells := 0, slots := 0, locals := 586 })).room s m ([.ref oM, .int p0] : List Value).toArray below meth c H locs 0 0 (MQ below (va_Qi (fun (r : Int32) (u : Nat) => (True ∧ True) ∧ r = Int32.ofNat u) (fun (u : Nat) (t : State) => ∃ (niM_thrown : Int32) (niM_trouble : Int32), (PX7_lineAt iM_hasCourt fM_r fM_told fM_st iM_scale iM_night p0 = (Int32.ofNat u, niM_thrown, niM_trouble)) ∧ Bw dC dI A [(oc7 oM niM_thrown rM_tape iM_taped iM_size iM_at iM_end iM_token iM_whole iM_nameSize iM_fault iM_place niM_trouble rM_letters iM_failed iM_hasCourt rM_r rM_fresh rM_told rM_read rM_st rM_undone rM_kept iM_undos iM_images rM_fresher iM_fresherSize iM_scale iM_night rM_heardRow rM_cutRow iM_breaths iM_cutMany iM_allBreaths rM_trial rM_words iM_fewestBreaths iM_orderMany iM_orderSum iM_leastOrder rM_often iM_setMany iM_someOf iM_allOf iM_allWeight iM_enoughWeight iM_worthSum iM_firstRest iM_leastDrawn), (arI rM_r kM_r 287 fM_r), (arI rM_told kM_told 90 fM_told), (arI rM_st kM_st 90 fM_st)] [(kM_r, .int), (kM_told, .int), (kM_st, .int)] t) A) ([.ref oM, .int p0] : List Value).toArray s 0 0 A) (F0 m 31 ls []) := by
          intro n_7141
          induction n_7141 with
          | zero => intro z_7139 z_7140 H locs ls hi0_n_7141 hm; exact absurd hm (Nat.not_lt_zero _)
          | succ n_7141 ih_n_7141 =>
            intro z_7139 z_7140 H locs ls hi0_n_7141 hm_n_7141 hG hP hD hS hl
            have hG := hG.trans (HX7_lineAt_0_eq _ _ _ _ _ _ _ _ _ _ _)
            have rg_z_7139 := fb_rng z_7139
            have rg_z_7140 := fb_rng z_7140
            refine lv_iload_n hx hb dX7_lineAt_31 rfl (lv_at hl 0 rfl) ?_
            refine lv_iload_n hx hb dX7_lineAt_32 rfl (lv_at hl 3 rfl) ?_
            refine lv_icmp_ge (tgt := 52) hx hb dX7_lineAt_33 (by decide) (fun c_7142 => ?_) (fun c_7142 => ?_)
            · skip
              have hG := hG.trans (if_pos c_7142)
              have gc_7142 := ti_le c_7142 rfl rfl
              refine lv_iload_n hx hb dX7_lineAt_52 rfl (lv_at hl 1 rfl) ?_
              refine lv_if_ge (tgt := 64) hx hb dX7_lineAt_53 (by decide) (fun c_7143 => ?_) (fun c_7143 => ?_)
              · skip
                have hG := hG.trans (if_pos c_7143)
                have gc_7143 := ti_le c_7143 kc_0 rfl
                refine lv_iload_n hx hb dX7_lineAt_64 rfl (lv_at hl 1 rfl) ?_
                exact wq_i hx hb hr (cI z_7139) ⟨⟨trivial, trivial⟩, (cI_of z_7139)⟩ (fun t ht hW => ⟨x_7129, x_7130, (cI_tup hG), Bw.to hP hD hK ht hW⟩) hS dX7_lineAt_65 hlocks
              · skip
                have hG := hG.trans (if_neg c_7143)
                have gc_7143 := ti_nle c_7143 kc_0 rfl
                refine lv_aload_n hx hb dX7_lineAt_56 rfl (lv_at hl 2 rfl) ?_
                refine lv_iconst (v := 1) hx hb dX7_lineAt_57 (by decide) ?_
                have hMs := ml_of hD [true, false, false, false] (wc := [(oc7 oM x_7129 rM_tape iM_taped iM_size iM_at iM_end iM_token iM_whole iM_nameSize iM_fault iM_place x_7130 rM_letters iM_failed iM_hasCourt rM_r rM_fresh rM_told rM_read rM_st rM_undone rM_kept iM_undos iM_images rM_fresher iM_fresherSize iM_scale iM_night rM_heardRow rM_cutRow iM_breaths iM_cutMany iM_allBreaths rM_trial rM_words iM_fewestBreaths iM_orderMany iM_orderSum iM_leastOrder rM_often iM_setMany iM_someOf iM_allOf iM_allWeight iM_enoughWeight iM_worthSum iM_firstRest iM_leastDrawn)]) rfl
                have hFc := va_freeM hD hS hA _ hMs
                refine va_calli (va_runV (As := [.int 1]) (rest := []) ⟨hx, hb, hml, hown, hts⟩ (tX7_no l dC dI _ oM x_7129 rM_tape iM_taped iM_size iM_at iM_end iM_token iM_whole iM_nameSize iM_fault iM_place x_7130 rM_letters iM_failed iM_hasCourt rM_r rM_fresh rM_told rM_read rM_st rM_undone rM_kept iM_undos iM_images rM_fresher iM_fresherSize iM_scale iM_night rM_heardRow rM_cutRow iM_breaths iM_cutMany iM_allBreaths rM_trial rM_words iM_fewestBreaths iM_orderMany iM_orderSum iM_leastOrder rM_often iM_setMany iM_someOf iM_allOf iM_allWeight iM_enoughWeight iM_worthSum iM_firstRest iM_leastDrawn 1 b_iM_taped b_iM_size b_iM_end b_iM_failed b_iM_hasCourt b_iM_undos b_iM_images b_iM_scale b_iM_breaths b_iM_cutMany) (cwV 1 hts (wd_V wd_396 wd_397 wd_398 wd_5 (wd_c wd_399)) rfl rfl rfl dv_yX7_no_1 ⟨Nat.le_of_ble_eq_true rfl, Nat.le_of_ble_eq_true rfl⟩) ⟨Pw.fb, recvX7 hK hP (q0 := 0) rfl, fun U hU hW => Pw.to (hP.ms _ hMs) (hD.ms _ hMs) (hK.ms [false, false, false] rfl) hE hS hFc hU hW⟩ rfl rfl hl.1 rfl (lv_room (Nat.le_of_ble_eq_true rfl)) dX7_lineAt_58 ⟨Nat.le_of_ble_eq_true rfl, Nat.le_of_ble_eq_true rfl⟩) hS (fun q _ h => hFc q h) hFc (fun r u t H locs ht hvm hw hB hz1 hk1 hS => ?_)
                have hru9 := hw.2
                have hw := hw.1
                refine ex_1_1 hB (fun x_7144 e_x_7144_0 hB => ?_)
                obtain ⟨hP, hD⟩ := Bw.goN (ws' := [(oc7 oM x_7129 rM_tape iM_taped iM_size iM_at iM_end iM_token iM_whole iM_nameSize iM_fault iM_place x_7144 rM_letters iM_failed iM_hasCourt rM_r rM_fresh rM_told rM_read rM_st rM_undone rM_kept iM_undos iM_images rM_fresher iM_fresherSize iM_scale iM_night rM_heardRow rM_cutRow iM_breaths iM_cutMany iM_allBreaths rM_trial rM_words iM_fewestBreaths iM_orderMany iM_orderSum iM_leastOrder rM_often iM_setMany iM_someOf iM_allOf iM_allWeight iM_enoughWeight iM_worthSum iM_firstRest iM_leastDrawn), (arI rM_r kM_r 287 fM_r), (arI rM_told kM_told 90 fM_told), (arI rM_st kM_st 90 fM_st)]) hB rfl ht hP hD _ hMs hk1 hFc rfl
                clear hz1 hk1 hvm ht hB hMs
                have rg_x_7144 := fb_rng x_7144
                rw [← hru9] at e_x_7144_0
                obtain ⟨x_7145, rfl⟩ : ∃ z, z = r := ⟨_, rfl⟩
                have hG := hG.trans (un2_eq e_x_7144_0)
                have rg_x_7145 := fb_rng x_7145
                refine lv_goto (tgt := 65) hx hb dX7_lineAt_61 (by decide) ?_
                exact wq_i hx hb hr (cI x_7145) ⟨⟨trivial, trivial⟩, (cI_of x_7145)⟩ (fun t ht hW => ⟨x_7129, x_7144, (cI_tup hG), Bw.to hP hD hK ht hW⟩) hS dX7_lineAt_65 hlocks
            · skip
              have hG := hG.trans (if_neg c_7142)
              have gc_7142 := ti_nle c_7142 rfl rfl
              refine lv_iload_n hx hb dX7_lineAt_36 rfl (lv_at hl 1 rfl) ?_
              refine lv_if_lt (tgt := 52) hx hb dX7_lineAt_37 (by decide) (fun c_7146 => ?_) (fun c_7146 => ?_)
              · skip
                have hG := hG.trans (if_pos c_7146)
                have gc_7146 := ti_lt c_7146 rfl kc_0
                refine lv_iload_n hx hb dX7_lineAt_52 rfl (lv_at hl 1 rfl) ?_
                refine lv_if_ge (tgt := 64) hx hb dX7_lineAt_53 (by decide) (fun c_7147 => ?_) (fun c_7147 => ?_)
                · skip
                  have hG := hG.trans (if_pos c_7147)
                  have gc_7147 := ti_le c_7147 kc_0 rfl
                  exact ((om_735be106 gc_7146 gc_7147)).elim
                · skip
                  have hG := hG.trans (if_neg c_7147)
                  have gc_7147 := ti_nle c_7147 kc_0 rfl
                  refine lv_aload_n hx hb dX7_lineAt_56 rfl (lv_at hl 2 rfl) ?_
                  refine lv_iconst (v := 1) hx hb dX7_lineAt_57 (by decide) ?_
                  have hMs := ml_of hD [true, false, false, false] (wc := [(oc7 oM x_7129 rM_tape iM_taped iM_size iM_at iM_end iM_token iM_whole iM_nameSize iM_fault iM_place x_7130 rM_letters iM_failed iM_hasCourt rM_r rM_fresh rM_told rM_read rM_st rM_undone rM_kept iM_undos iM_images rM_fresher iM_fresherSize iM_scale iM_night rM_heardRow rM_cutRow iM_breaths iM_cutMany iM_allBreaths rM_trial rM_words iM_fewestBreaths iM_orderMany iM_orderSum iM_leastOrder rM_often iM_setMany iM_someOf iM_allOf iM_allWeight iM_enoughWeight iM_worthSum iM_firstRest iM_leastDrawn)]) rfl
                  have hFc := va_freeM hD hS hA _ hMs
                  refine va_calli (va_runV (As := [.int 1]) (rest := []) ⟨hx, hb, hml, hown, hts⟩ (tX7_no l dC dI _ oM x_7129 rM_tape iM_taped iM_size iM_at iM_end iM_token iM_whole iM_nameSize iM_fault iM_place x_7130 rM_letters iM_failed iM_hasCourt rM_r rM_fresh rM_told rM_read rM_st rM_undone rM_kept iM_undos iM_images rM_fresher iM_fresherSize iM_scale iM_night rM_heardRow rM_cutRow iM_breaths iM_cutMany iM_allBreaths rM_trial rM_words iM_fewestBreaths iM_orderMany iM_orderSum iM_leastOrder rM_often iM_setMany iM_someOf iM_allOf iM_allWeight iM_enoughWeight iM_worthSum iM_firstRest iM_leastDrawn 1 b_iM_taped b_iM_size b_iM_end b_iM_failed b_iM_hasCourt b_iM_undos b_iM_images b_iM_scale b_iM_breaths b_iM_cutMany) (cwV 1 hts (wd_V wd_396 wd_397 wd_398 wd_5 (wd_c wd_399)) rfl rfl rfl dv_yX7_no_1 ⟨Nat.le_of_ble_eq_true rfl, Nat.le_of_ble_eq_true rfl⟩) ⟨Pw.fb, recvX7 hK hP (q0 := 0) rfl, fun U hU hW => Pw.to (hP.ms _ hMs) (hD.ms _ hMs) (hK.ms [false, false, false] rfl) hE hS hFc hU hW⟩ rfl rfl hl.1 rfl (lv_room (Nat.le_of_ble_eq_true rfl)) dX7_lineAt_58 ⟨Nat.le_of_ble_eq_true rfl, Nat.le_of_ble_eq_true rfl⟩) hS (fun q _ h => hFc q h) hFc (fun r u t H locs ht hvm hw hB hz1 hk1 hS => ?_)
                  have hru9 := hw.2
                  have hw := hw.1
                  refine ex_1_1 hB (fun x_7148 e_x_7148_0 hB => ?_)
                  obtain ⟨hP, hD⟩ := Bw.goN (ws' := [(oc7 oM x_7129 rM_tape iM_taped iM_size iM_at iM_end iM_token iM_whole iM_nameSize iM_fault iM_place x_7148 rM_letters iM_failed iM_hasCourt rM_r rM_fresh rM_told rM_read rM_st rM_undone rM_kept iM_undos iM_images rM_fresher iM_fresherSize iM_scale iM_night rM_heardRow rM_cutRow iM_breaths iM_cutMany iM_allBreaths rM_trial rM_words iM_fewestBreaths iM_orderMany iM_orderSum iM_leastOrder rM_often iM_setMany iM_someOf iM_allOf iM_allWeight iM_enoughWeight iM_worthSum iM_firstRest iM_leastDrawn), (arI rM_r kM_r 287 fM_r), (arI rM_told kM_told 90 fM_told), (arI rM_st kM_st 90 fM_st)]) hB rfl ht hP hD _ hMs hk1 hFc rfl
                  clear hz1 hk1 hvm ht hB hMs
                  have rg_x_7148 := fb_rng x_7148
                  rw [← hru9] at e_x_7148_0
                  obtain ⟨x_7149, rfl⟩ : ∃ z, z = r := ⟨_, rfl⟩
                  have hG := hG.trans (un2_eq e_x_7148_0)
                  have rg_x_7149 := fb_rng x_7149
                  refine lv_goto (tgt := 65) hx hb dX7_lineAt_61 (by decide) ?_
                  exact wq_i hx hb hr (cI x_7149) ⟨⟨trivial, trivial⟩, (cI_of x_7149)⟩ (fun t ht hW => ⟨x_7129, x_7148, (cI_tup hG), Bw.to hP hD hK ht hW⟩) hS dX7_lineAt_65 hlocks
              · skip
                have hG := hG.trans (if_neg c_7146)
                have gc_7146 := ti_nlt c_7146 rfl kc_0
                refine lv_aload_n hx hb dX7_lineAt_40 rfl (lv_at hl 2 rfl) ?_
                refine lv_iload_n hx hb dX7_lineAt_41 rfl (lv_at hl 1 rfl) ?_
                have rg_iM_night := fb_rng iM_night
                have hFc := va_freeI hD hS hA
                refine va_calli (va_runV (As := [.int z_7139]) (rest := []) ⟨hx, hb, hml, hown, hts⟩ (tX7_bestOf l dC dI _ oM x_7129 rM_tape iM_taped iM_size iM_at iM_end iM_token iM_whole iM_nameSize iM_fault iM_place x_7130 rM_letters iM_failed iM_hasCourt rM_r fM_r kM_r rM_fresh rM_told fM_told kM_told rM_read rM_st fM_st kM_st rM_undone rM_kept iM_undos iM_images rM_fresher iM_fresherSize iM_scale iM_night rM_heardRow rM_cutRow iM_breaths iM_cutMany iM_allBreaths rM_trial rM_words iM_fewestBreaths iM_orderMany iM_orderSum iM_leastOrder rM_often iM_setMany iM_someOf iM_allOf iM_allWeight iM_enoughWeight iM_worthSum iM_firstRest iM_leastDrawn z_7139 b_iM_taped b_iM_size b_iM_end b_iM_failed b_iM_hasCourt b_iM_undos b_iM_images b_iM_scale b_iM_breaths b_iM_cutMany (by assumption) (by assumption) (by assumption) (by assumption) (by assumption) ⟨gc_7146, hi0_n_7141.2⟩ hnt) (cwV 1 hts (wd_V wd_670 wd_671 wd_672 wd_5 (wd_c wd_673)) rfl rfl rfl dv_yX7_bestOf_1 ⟨Nat.le_of_ble_eq_true rfl, Nat.le_of_ble_eq_true rfl⟩) ⟨Pw.fb, recvX7 hK hP (q0 := 0) rfl, fun U hU hW => Pw.to hP hD hK hE hS hFc hU hW⟩ rfl rfl hl.1 rfl (lv_room (Nat.le_of_ble_eq_true rfl)) dX7_lineAt_42 ⟨Nat.le_of_ble_eq_true rfl, Nat.le_of_ble_eq_true rfl⟩) hS (fun q _ h => hFc q h) hFc (fun r u t H locs ht hvm hw hB hz1 hk1 hS => ?_)
                have hru9 := hw.2
                have hw := hw.1
                obtain ⟨hP, hD⟩ := Bw.goA (ws' := [(oc7 oM x_7129 rM_tape iM_taped iM_size iM_at iM_end iM_token iM_whole iM_nameSize iM_fault iM_place x_7130 rM_letters iM_failed iM_hasCourt rM_r rM_fresh rM_told rM_read rM_st rM_undone rM_kept iM_undos iM_images rM_fresher iM_fresherSize iM_scale iM_night rM_heardRow rM_cutRow iM_breaths iM_cutMany iM_allBreaths rM_trial rM_words iM_fewestBreaths iM_orderMany iM_orderSum iM_leastOrder rM_often iM_setMany iM_someOf iM_allOf iM_allWeight iM_enoughWeight iM_worthSum iM_firstRest iM_leastDrawn), (arI rM_r kM_r 287 fM_r), (arI rM_told kM_told 90 fM_told), (arI rM_st kM_st 90 fM_st)]) hB rfl ht hFc rfl
                clear hz1 hk1 hvm ht hB
                obtain ⟨x_7150, rfl⟩ : ∃ z, z = r := ⟨_, rfl⟩
                have hG := hG.trans (lt_eq hru9.symm)
                have rg_x_7150 := fb_rng x_7150
                have lx_7150 := hw.2
                have ux_7150 := hw.2
                refine lv_istore_n (lv' := [(2, .int x_7150), (3, .int z_7140), (0, .ref oM), (1, .int p0)]) hx hb dX7_lineAt_45 rfl hl (by decide) rfl (fun ls hl => ?_)
                obtain ⟨x_7151, ex_7151⟩ : ∃ z : Int32, z = z_7140 + Int32.ofInt 1 := ⟨_, rfl⟩
                have hG := hG.trans (lt_eq ex_7151)
                have vx_7151 : x_7151.toInt = z_7140.toInt + 1 := ti_add (y := 1) ex_7151 rfl kc_1 (om_81d93db8 rg_z_7140.1) (om_219cd8d8 rg_p0.2 gc_7142)
                refine lv_iinc (v := x_7151) (lv' := [(3, .int x_7151), (2, .int x_7150), (0, .ref oM), (1, .int p0)]) hx hb dX7_lineAt_46 hl (k := 1) rfl ex_7151.symm (by decide) rfl (fun ls hl => ?_)
                refine lv_goto (tgt := 31) hx hb dX7_lineAt_49 (by decide) ?_
                exact ih_n_7141 x_7150 x_7151 _ _ _  ⟨lx_7150.1, (om_90a71968 hi0_n_7141.2 lx_7150.2.1)⟩ (ms_lt hm_n_7141 (om_27cbe1c0 lx_7150.2.1) (om_9734b4e0 hi0_n_7141.1)) hG hP hD hS (lv_sub hl [0, 1, 2, 3] rfl)
        exact key_n_7141 (((x_7138.toInt + 3).toNat) + 1) x_7138 0 _ _ _  ⟨(om_cad2a9ff r_C1.2.1 cx_7138), (om_21cef2c6 r_C1.2.2 cx_7138)⟩ (Nat.lt_add_one _) hG hP hD hS hl
      · skip
        have hG := hG.trans (if_neg c_7137)
        have gc_7137 := ti_nle c_7137 kc_0 rfl
        refine lv_aload_n hx hb dX7_lineAt_15 rfl (lv_at hl 0 rfl) ?_
        refine lv_iconst (v := 1) hx hb dX7_lineAt_16 (by decide) ?_
        have hMs := ml_of hD [true, false, false, false] (wc := [(oc7 oM x_7129 rM_tape iM_taped iM_size iM_at iM_end iM_token iM_whole iM_nameSize iM_fault iM_place x_7130 rM_letters iM_failed iM_hasCourt rM_r rM_fresh rM_told rM_read rM_st rM_undone rM_kept iM_undos iM_images rM_fresher iM_fresherSize iM_scale iM_night rM_heardRow rM_cutRow iM_breaths iM_cutMany iM_allBreaths rM_trial rM_words iM_fewestBreaths iM_orderMany iM_orderSum iM_leastOrder rM_often iM_setMany iM_someOf iM_allOf iM_allWeight iM_enoughWeight iM_worthSum iM_firstRest iM_leastDrawn)]) rfl
        have hFc := va_freeM hD hS hA _ hMs
        refine va_calli (va_runV (As := [.int 1]) (rest := []) ⟨hx, hb, hml, hown, hts⟩ (tX7_no l dC dI _ oM x_7129 rM_tape iM_taped iM_size iM_at iM_end iM_token iM_whole iM_nameSize iM_fault iM_place x_7130 rM_letters iM_failed iM_hasCourt rM_r rM_fresh rM_told rM_read rM_st rM_undone rM_kept iM_undos iM_images rM_fresher iM_fresherSize iM_scale iM_night rM_heardRow rM_cutRow iM_breaths iM_cutMany iM_allBreaths rM_trial rM_words iM_fewestBreaths iM_orderMany iM_orderSum iM_leastOrder rM_often iM_setMany iM_someOf iM_allOf iM_allWeight iM_enoughWeight iM_worthSum iM_firstRest iM_leastDrawn 1 b_iM_taped b_iM_size b_iM_end b_iM_failed b_iM_hasCourt b_iM_undos b_iM_images b_iM_scale b_iM_breaths b_iM_cutMany) (cwV 1 hts (wd_V wd_396 wd_397 wd_398 wd_5 (wd_c wd_399)) rfl rfl rfl dv_yX7_no_1 ⟨Nat.le_of_ble_eq_true rfl, Nat.le_of_ble_eq_true rfl⟩) ⟨Pw.fb, recvX7 hK hP (q0 := 0) rfl, fun U hU hW => Pw.to (hP.ms _ hMs) (hD.ms _ hMs) (hK.ms [false, false, false] rfl) hE hS hFc hU hW⟩ rfl rfl hl.1 rfl (lv_room (Nat.le_of_ble_eq_true rfl)) dX7_lineAt_17 ⟨Nat.le_of_ble_eq_true rfl, Nat.le_of_ble_eq_true rfl⟩) hS (fun q _ h => hFc q h) hFc (fun r u t H locs ht hvm hw hB hz1 hk1 hS => ?_)
        have hru9 := hw.2
        have hw := hw.1
        refine ex_1_1 hB (fun x_7152 e_x_7152_0 hB => ?_)
        obtain ⟨hP, hD⟩ := Bw.goN (ws' := [(oc7 oM x_7129 rM_tape iM_taped iM_size iM_at iM_end iM_token iM_whole iM_nameSize iM_fault iM_place x_7152 rM_letters iM_failed iM_hasCourt rM_r rM_fresh rM_told rM_read rM_st rM_undone rM_kept iM_undos iM_images rM_fresher iM_fresherSize iM_scale iM_night rM_heardRow rM_cutRow iM_breaths iM_cutMany iM_allBreaths rM_trial rM_words iM_fewestBreaths iM_orderMany iM_orderSum iM_leastOrder rM_often iM_setMany iM_someOf iM_allOf iM_allWeight iM_enoughWeight iM_worthSum iM_firstRest iM_leastDrawn), (arI rM_r kM_r 287 fM_r), (arI rM_told kM_told 90 fM_told), (arI rM_st kM_st 90 fM_st)]) hB rfl ht hP hD _ hMs hk1 hFc rfl
        clear hz1 hk1 hvm ht hB hMs
        have rg_x_7152 := fb_rng x_7152
        rw [← hru9] at e_x_7152_0
        obtain ⟨x_7153, rfl⟩ : ∃ z, z = r := ⟨_, rfl⟩
        have hG := hG.trans (un2_eq e_x_7152_0)
        have rg_x_7153 := fb_rng x_7153
        exact wq_i hx hb hr (cI x_7153) ⟨⟨trivial, trivial⟩, (cI_of x_7153)⟩ (fun t ht hW => ⟨x_7129, x_7152, (cI_tup hG), Bw.to hP hD hK ht hW⟩) hS dX7_lineAt_20 hlocks
set_option maxHeartbeats 4000000 in
set_option maxRecDepth 100000 in
theorem tX7_court (l : Launch) (dC : Nat → ClassId) (dI : Nat → Nat → Nat) (sz : Nat) (oM : Nat) (iM_thrown : Int32) (rM_tape : Nat) (fM_tape : Nat → Int32) (kM_tape : ClassId) (iM_taped : Int32) (iM_size : Int32) (iM_at : Int32) (iM_end : Int32) (iM_token : Int32) (iM_whole : Int32) (iM_nameSize : Int32) (iM_fault : Int32) (iM_place : Int32) (iM_trouble : Int32) (rM_letters : Nat) (fM_letters : Nat → Int32) (kM_letters : ClassId) (iM_failed : Int32) (iM_hasCourt : Int32) (rM_r : Nat) (fM_r : Nat → Int32) (kM_r : ClassId) (rM_fresh : Nat) (fM_fresh : Nat → Int32) (kM_fresh : ClassId) (rM_told : Nat) (fM_told : Nat → Int32) (kM_told : ClassId) (rM_read : Nat) (fM_read : Nat → Int32) (kM_read : ClassId) (rM_st : Nat) (fM_st : Nat → Int32) (kM_st : ClassId) (rM_undone : Nat) (fM_undone : Nat → Int32) (kM_undone : ClassId) (rM_kept : Nat) (fM_kept : Nat → Int32) (kM_kept : ClassId) (iM_undos : Int32) (iM_images : Int32) (rM_fresher : Nat) (fM_fresher : Nat → Int32) (kM_fresher : ClassId) (iM_fresherSize : Int32) (iM_scale : Int32) (iM_night : Int32) (rM_heardRow : Nat) (rM_cutRow : Nat) (iM_breaths : Int32) (iM_cutMany : Int32) (iM_allBreaths : Int32) (rM_trial : Nat) (rM_words : Nat) (iM_fewestBreaths : Int32) (iM_orderMany : Int32) (iM_orderSum : Int32) (iM_leastOrder : Int32) (rM_often : Nat) (iM_setMany : Int32) (iM_someOf : Int32) (iM_allOf : Int32) (iM_allWeight : Int64) (iM_enoughWeight : Int64) (iM_worthSum : Int64) (iM_firstRest : Int32) (iM_leastDrawn : Int32) (p0 : Int32) (b_iM_taped : 0 ≤ iM_taped.toInt ∧ iM_taped.toInt ≤ 900) (b_iM_size : 0 ≤ iM_size.toInt ∧ iM_size.toInt ≤ 900) (b_iM_end : 0 ≤ iM_end.toInt ∧ iM_end.toInt ≤ 900) (b_iM_nameSize : 0 ≤ iM_nameSize.toInt ∧ iM_nameSize.toInt ≤ 900) (b_iM_failed : 0 ≤ iM_failed.toInt ∧ iM_failed.toInt ≤ 1) (b_iM_hasCourt : 0 ≤ iM_hasCourt.toInt ∧ iM_hasCourt.toInt ≤ 1) (b_iM_undos : 0 ≤ iM_undos.toInt ∧ iM_undos.toInt ≤ 16) (b_iM_images : 0 ≤ iM_images.toInt ∧ iM_images.toInt ≤ 3) (b_iM_scale : 1 ≤ iM_scale.toInt ∧ iM_scale.toInt ≤ 1296) (b_iM_breaths : 0 ≤ iM_breaths.toInt ∧ iM_breaths.toInt ≤ 399) (b_iM_cutMany : 0 ≤ iM_cutMany.toInt ∧ iM_cutMany.toInt ≤ 399) (r_R : ROk fM_r) (r_C : iM_hasCourt.toInt ≤ 0 ∨ (1 ≤ (fM_r 1).toInt ∧ 0 ≤ (fM_r 6).toInt ∧ (fM_r 6).toInt < (fM_r 1).toInt)) (r_st : RowOk fM_r fM_st) (r_told : RowOk fM_r fM_told) (r_wst : WorOk fM_st) (r_un : HistOk fM_r fM_undone iM_undos.toInt) (r_ke : HistOk fM_r fM_kept iM_images.toInt) (r_T : ImpP (iM_token.toInt = 2) (iM_nameSize.toInt ≤ 8))  : Met l yX7_court (Cond.code yX7_court cX7_court 3 (some .int) :: wG) ({ frames := 10, cells := 0, slots := 0, locals := 240 }) (va_Pc [.ref oM, .int p0] (Pw dC dI sz [(oc7 oM iM_thrown rM_tape iM_taped iM_size iM_at iM_end iM_token iM_whole iM_nameSize iM_fault iM_place iM_trouble rM_letters iM_failed iM_hasCourt rM_r rM_fresh rM_told rM_read rM_st rM_undone rM_kept iM_undos iM_images rM_fresher iM_fresherSize iM_scale iM_night rM_heardRow rM_cutRow iM_breaths iM_cutMany iM_allBreaths rM_trial rM_words iM_fewestBreaths iM_orderMany iM_orderSum iM_leastOrder rM_often iM_setMany iM_someOf iM_allOf iM_allWeight iM_enoughWeight iM_worthSum iM_firstRest iM_leastDrawn), (arI rM_tape kM_tape 900 fM_tape), (arI rM_letters kM_letters 8 fM_letters), (arI rM_r kM_r 287 fM_r), (arI rM_fresh kM_fresh 287 fM_fresh), (arI rM_told kM_told 90 fM_told), (arI rM_read kM_read 90 fM_read), (arI rM_st kM_st 90 fM_st), (arI rM_undone kM_undone 1440 fM_undone), (arI rM_kept kM_kept 270 fM_kept), (arI rM_fresher kM_fresher 8 fM_fresher)] [(kM_tape, .int), (kM_letters, .int), (kM_r, .int), (kM_fresh, .int), (kM_told, .int), (kM_read, .int), (kM_st, .int), (kM_undone, .int), (kM_kept, .int), (kM_fresher, .int)])) (va_Qi (fun (r : Int32) (u : Nat) => (True ∧ True) ∧ r = Int32.ofNat u) (fun (u : Nat) (t : State) => ∃ (niM_thrown : Int32) (niM_taped : Int32) (niM_size : Int32) (niM_at : Int32) (niM_end : Int32) (niM_token : Int32) (niM_whole : Int32) (niM_nameSize : Int32) (niM_fault : Int32) (niM_place : Int32) (niM_trouble : Int32) (niM_failed : Int32) (niM_hasCourt : Int32) (niM_undos : Int32) (niM_images : Int32) (niM_fresherSize : Int32) (niM_scale : Int32) (nfM_letters : Nat → Int32) (nfM_r : Nat → Int32) (nfM_fresh : Nat → Int32) (nfM_told : Nat → Int32) (nfM_read : Nat → Int32) (nfM_st : Nat → Int32) (nfM_fresher : Nat → Int32), (0 ≤ niM_taped.toInt ∧ niM_taped.toInt ≤ 900) ∧ (0 ≤ niM_size.toInt ∧ niM_size.toInt ≤ 900) ∧ (0 ≤ niM_end.toInt ∧ niM_end.toInt ≤ 900) ∧ (0 ≤ niM_nameSize.toInt ∧ niM_nameSize.toInt ≤ 900) ∧ (0 ≤ niM_failed.toInt ∧ niM_failed.toInt ≤ 1) ∧ (0 ≤ niM_hasCourt.toInt ∧ niM_hasCourt.toInt ≤ 1) ∧ (0 ≤ niM_undos.toInt ∧ niM_undos.toInt ≤ 16) ∧ (0 ≤ niM_images.toInt ∧ niM_images.toInt ≤ 3) ∧ (1 ≤ niM_scale.toInt ∧ niM_scale.toInt ≤ 1296) ∧ (ROk nfM_r) ∧ (niM_hasCourt.toInt ≤ 0 ∨ (1 ≤ (nfM_r 1).toInt ∧ 0 ≤ (nfM_r 6).toInt ∧ (nfM_r 6).toInt < (nfM_r 1).toInt)) ∧ (RowOk nfM_r nfM_st) ∧ (RowOk nfM_r nfM_told) ∧ (WorOk nfM_st) ∧ (HistOk nfM_r fM_undone niM_undos.toInt) ∧ (HistOk nfM_r fM_kept niM_images.toInt) ∧ (ImpP (niM_token.toInt = 2) (niM_nameSize.toInt ≤ 8)) ∧ ((0 ≤ p0.toInt ∧ p0.toInt ≤ iM_taped.toInt ∧ niM_taped.toInt = 0) ∨ ((p0.toInt < 0 ∨ iM_taped.toInt < p0.toInt) ∧ niM_taped.toInt = iM_taped.toInt)) ∧ (PX7_court fM_tape iM_taped iM_size iM_at iM_end iM_token iM_whole iM_nameSize iM_fault iM_place fM_letters iM_failed iM_hasCourt fM_r fM_fresh fM_told fM_read fM_st iM_undos iM_images fM_fresher iM_fresherSize iM_scale p0 = (Int32.ofNat u, niM_thrown, niM_taped, niM_size, niM_at, niM_end, niM_token, niM_whole, niM_nameSize, niM_fault, niM_place, niM_trouble, niM_failed, niM_hasCourt, niM_undos, niM_images, niM_fresherSize, niM_scale, nfM_letters, nfM_r, nfM_fresh, nfM_told, nfM_read, nfM_st, nfM_fresher)) ∧ Bw dC dI (va_A [(oc7 oM iM_thrown rM_tape iM_taped iM_size iM_at iM_end iM_token iM_whole iM_nameSize iM_fault iM_place iM_trouble rM_letters iM_failed iM_hasCourt rM_r rM_fresh rM_told rM_read rM_st rM_undone rM_kept iM_undos iM_images rM_fresher iM_fresherSize iM_scale iM_night rM_heardRow rM_cutRow iM_breaths iM_cutMany iM_allBreaths rM_trial rM_words iM_fewestBreaths iM_orderMany iM_orderSum iM_leastOrder rM_often iM_setMany iM_someOf iM_allOf iM_allWeight iM_enoughWeight iM_worthSum iM_firstRest iM_leastDrawn), (arI rM_tape kM_tape 900 fM_tape), (arI rM_letters kM_letters 8 fM_letters), (arI rM_r kM_r 287 fM_r), (arI rM_fresh kM_fresh 287 fM_fresh), (arI rM_told kM_told 90 fM_told), (arI rM_read kM_read 90 fM_read), (arI rM_st kM_st 90 fM_st), (arI rM_undone kM_undone 1440 fM_undone), (arI rM_kept kM_kept 270 fM_kept), (arI rM_fresher kM_fresher 8 fM_fresher)] sz) [(oc7 oM niM_thrown rM_tape niM_taped niM_size niM_at niM_end niM_token niM_whole niM_nameSize niM_fault niM_place niM_trouble rM_letters niM_failed niM_hasCourt rM_r rM_fresh rM_told rM_read rM_st rM_undone rM_kept niM_undos niM_images rM_fresher niM_fresherSize niM_scale iM_night rM_heardRow rM_cutRow iM_breaths iM_cutMany iM_allBreaths rM_trial rM_words iM_fewestBreaths iM_orderMany iM_orderSum iM_leastOrder rM_often iM_setMany iM_someOf iM_allOf iM_allWeight iM_enoughWeight iM_worthSum iM_firstRest iM_leastDrawn), (arI rM_tape kM_tape 900 fM_tape), (arI rM_letters kM_letters 8 nfM_letters), (arI rM_r kM_r 287 nfM_r), (arI rM_fresh kM_fresh 287 nfM_fresh), (arI rM_told kM_told 90 nfM_told), (arI rM_read kM_read 90 nfM_read), (arI rM_st kM_st 90 nfM_st), (arI rM_undone kM_undone 1440 fM_undone), (arI rM_kept kM_kept 270 fM_kept), (arI rM_fresher kM_fresher 8 nfM_fresher)] [(kM_tape, .int), (kM_letters, .int), (kM_r, .int), (kM_fresh, .int), (kM_told, .int), (kM_read, .int), (kM_st, .int), (kM_undone, .int), (kM_kept, .int), (kM_fresher, .int)] t) (va_A [(oc7 oM iM_thrown rM_tape iM_taped iM_size iM_at iM_end iM_token iM_whole iM_nameSize iM_fault iM_place iM_trouble rM_letters iM_failed iM_hasCourt rM_r rM_fresh rM_told rM_read rM_st rM_undone rM_kept iM_undos iM_images rM_fresher iM_fresherSize iM_scale iM_night rM_heardRow rM_cutRow iM_breaths iM_cutMany iM_allBreaths rM_trial rM_words iM_fewestBreaths iM_orderMany iM_orderSum iM_leastOrder rM_often iM_setMany iM_someOf iM_allOf iM_allWeight iM_enoughWeight iM_worthSum iM_firstRest iM_leastDrawn), (arI rM_tape kM_tape 900 fM_tape), (arI rM_letters kM_letters 8 fM_letters), (arI rM_r kM_r 287 fM_r), (arI rM_fresh kM_fresh 287 fM_fresh), (arI rM_told kM_told 90 fM_told), (arI rM_read kM_read 90 fM_read), (arI rM_st kM_st 90 fM_st), (arI rM_undone kM_undone 1440 fM_undone), (arI rM_kept kM_kept 270 fM_kept), (arI rM_fresher kM_fresher 8 fM_fresher)] sz)) 0 0 (va_A [(oc7 oM iM_thrown rM_tape iM_taped iM_size iM_at iM_end iM_token iM_whole iM_nameSize iM_fault iM_place iM_trouble rM_letters iM_failed iM_hasCourt rM_r rM_fresh rM_told rM_read rM_st rM_undone rM_kept iM_undos iM_images rM_fresher iM_fresherSize iM_scale iM_night rM_heardRow rM_cutRow iM_breaths iM_cutMany iM_allBreaths rM_trial rM_words iM_fewestBreaths iM_orderMany iM_orderSum iM_leastOrder rM_often iM_setMany iM_someOf iM_allOf iM_allWeight iM_enoughWeight iM_worthSum iM_firstRest iM_leastDrawn), (arI rM_tape kM_tape 900 fM_tape), (arI rM_letters kM_letters 8 fM_letters), (arI rM_r kM_r 287 fM_r), (arI rM_fresh kM_fresh 287 fM_fresh), (arI rM_told kM_told 90 fM_told), (arI rM_read kM_read 90 fM_read), (arI rM_st kM_st 90 fM_st), (arI rM_undone kM_undone 1440 fM_undone), (arI rM_kept kM_kept 270 fM_kept), (arI rM_fresher kM_fresher 8 fM_fresher)] sz) := by
  refine Met.ofW (cc := cX7_court) (maxL := 3) (ret := (some .int)) pnX7 rfl ?_
  intro p e s m args below meth c s₁ B hml hv
  obtain ⟨rfl, hsz, hP, hK, hD0, hE⟩ := hv
  have hx := B.exec
  have hb := B.bytes
  have hr := B.returns
  have hts : ∀ w ∈ wG, w.before ([.ref oM, .int p0] : List Value).toArray s = true := fun w h => atoms_spec (ws := Cond.code yX7_court cX7_court 3 (some .int) :: wG) B.pre w (List.mem_cons_of_mem _ h)
  have hown : s.vm.findClass RX7 = some m.cls := own_of B.named rfl
  have hlocks := B.notSynchronized
  subst hsz
  have hD := hD0.self (sz := s.heap.size)
  generalize hAe : va_A [(oc7 oM iM_thrown rM_tape iM_taped iM_size iM_at iM_end iM_token iM_whole iM_nameSize iM_fault iM_place iM_trouble rM_letters iM_failed iM_hasCourt rM_r rM_fresh rM_told rM_read rM_st rM_undone rM_kept iM_undos iM_images rM_fresher iM_fresherSize iM_scale iM_night rM_heardRow rM_cutRow iM_breaths iM_cutMany iM_allBreaths rM_trial rM_words iM_fewestBreaths iM_orderMany iM_orderSum iM_leastOrder rM_often iM_setMany iM_someOf iM_allOf iM_allWeight iM_enoughWeight iM_worthSum iM_firstRest iM_leastDrawn), (arI rM_tape kM_tape 900 fM_tape), (arI rM_letters kM_letters 8 fM_letters), (arI rM_r kM_r 287 fM_r), (arI rM_fresh kM_fresh 287 fM_fresh), (arI rM_told kM_told 90 fM_told), (arI rM_read kM_read 90 fM_read), (arI rM_st kM_st 90 fM_st), (arI rM_undone kM_undone 1440 fM_undone), (arI rM_kept kM_kept 270 fM_kept), (arI rM_fresher kM_fresher 8 fM_fresher)] s.heap.size = A at hD hE ⊢
  have hA : ∀ q : Nat, s.heap.size ≤ q → A q := fun q h => by rw [← hAe]; exact Or.inr h
  have hS : va_S A s.heap s.heap [] := va_S.rf
  have hl := lv_entry ([.ref oM, .int p0]) (n := 3) (Nat.le_of_ble_eq_true rfl)
  rw [lg_entry_eq]
  generalize (lg_sl ([.ref oM, .int p0]) ++ List.replicate (3 - (lg_sl ([.ref oM, .int p0])).length) Slot.unset).toArray = ls at hl ⊢
  have hl : lv_has ls 3 [(0, .ref oM), (1, .int p0)] := hl
  have hG := PX7_court_eq fM_tape iM_taped iM_size iM_at iM_end iM_token iM_whole iM_nameSize iM_fault iM_place fM_letters iM_failed iM_hasCourt fM_r fM_fresh fM_told fM_read fM_st iM_undos iM_images fM_fresher iM_fresherSize iM_scale p0
  have s_slips := r_R.slips
  have s_nodes := r_R.nodes
  have s_uns := r_R.uns
  refine lv_aload_n hx hb dX7_court_0 rfl (lv_at hl 0 rfl) ?_
  have hMs := ml_of hD [true, false, false, false, false, false, false, false, false, false, false] (wc := [(oc7 oM iM_thrown rM_tape iM_taped iM_size iM_at iM_end iM_token iM_whole iM_nameSize iM_fault iM_place iM_trouble rM_letters iM_failed iM_hasCourt rM_r rM_fresh rM_told rM_read rM_st rM_undone rM_kept iM_undos iM_images rM_fresher iM_fresherSize iM_scale iM_night rM_heardRow rM_cutRow iM_breaths iM_cutMany iM_allBreaths rM_trial rM_words iM_fewestBreaths iM_orderMany iM_orderSum iM_leastOrder rM_often iM_setMany iM_someOf iM_allOf iM_allWeight iM_enoughWeight iM_worthSum iM_firstRest iM_leastDrawn)]) rfl
  have hFc := va_freeM hD hS hA _ hMs
  refine va_callv (va_runV (As := []) (rest := []) ⟨hx, hb, hml, hown, hts⟩ (tX7_good l dC dI _ oM iM_thrown rM_tape iM_taped iM_size iM_at iM_end iM_token iM_whole iM_nameSize iM_fault iM_place iM_trouble rM_letters iM_failed iM_hasCourt rM_r rM_fresh rM_told rM_read rM_st rM_undone rM_kept iM_undos iM_images rM_fresher iM_fresherSize iM_scale iM_night rM_heardRow rM_cutRow iM_breaths iM_cutMany iM_allBreaths rM_trial rM_words iM_fewestBreaths iM_orderMany iM_orderSum iM_leastOrder rM_often iM_setMany iM_someOf iM_allOf iM_allWeight iM_enoughWeight iM_worthSum iM_firstRest iM_leastDrawn b_iM_taped b_iM_size b_iM_end b_iM_failed b_iM_hasCourt b_iM_undos b_iM_images b_iM_scale b_iM_breaths b_iM_cutMany) (cwV 0 hts (wd_V wd_388 wd_389 wd_390 wd_5 (wd_c wd_391)) rfl rfl rfl dv_yX7_good_0 ⟨Nat.le_of_ble_eq_true rfl, Nat.le_of_ble_eq_true rfl⟩) ⟨Pw.fb, recvX7 hK hP (q0 := 0) rfl, fun U hU hW => Pw.to (hP.ms _ hMs) (hD.ms _ hMs) (hK.ms [false, false, false, false, false, false, false, false, false, false] rfl) hE hS hFc hU hW⟩ rfl rfl hl.1 rfl (lv_room (Nat.le_of_ble_eq_true rfl)) dX7_court_1 ⟨Nat.le_of_ble_eq_true rfl, Nat.le_of_ble_eq_true rfl⟩) hS (fun q _ h => hFc q h) hFc (fun u t H locs ht hvm hw hB hz1 hk1 hS => ?_)
  refine ex_2_3 hB (fun x_7275 x_7276 b_x_7275 b_x_7276 e_x_7275_0 hB => ?_)
  obtain ⟨hP, hD⟩ := Bw.goN (ws' := [(oc7 oM x_7275 rM_tape iM_taped iM_size iM_at iM_end iM_token iM_whole iM_nameSize iM_fault iM_place x_7276 rM_letters iM_failed iM_hasCourt rM_r rM_fresh rM_told rM_read rM_st rM_undone rM_kept iM_undos iM_images rM_fresher iM_fresherSize iM_scale iM_night rM_heardRow rM_cutRow iM_breaths iM_cutMany iM_allBreaths rM_trial rM_words iM_fewestBreaths iM_orderMany iM_orderSum iM_leastOrder rM_often iM_setMany iM_someOf iM_allOf iM_allWeight iM_enoughWeight iM_worthSum iM_firstRest iM_leastDrawn), (arI rM_tape kM_tape 900 fM_tape), (arI rM_letters kM_letters 8 fM_letters), (arI rM_r kM_r 287 fM_r), (arI rM_fresh kM_fresh 287 fM_fresh), (arI rM_told kM_told 90 fM_told), (arI rM_read kM_read 90 fM_read), (arI rM_st kM_st 90 fM_st), (arI rM_undone kM_undone 1440 fM_undone), (arI rM_kept kM_kept 270 fM_kept), (arI rM_fresher kM_fresher 8 fM_fresher)]) hB rfl ht hP hD _ hMs hk1 hFc rfl
  clear hz1 hk1 hvm ht hB hMs
  have hG := hG.trans (un2_eq e_x_7275_0)
  refine lv_iload_n hx hb dX7_court_4 rfl (lv_at hl 1 rfl) ?_
  refine lv_iconst (v := 0) hx hb dX7_court_5 (by decide) ?_
  refine lv_aload_n hx hb dX7_court_6 rfl (lv_at hl 0 rfl) ?_
  refine va_get (D := (dC, dI)) (ci := 7) (v := .int iM_taped) (C := RX7) (T := TX7) (N := 48) hx hb hts inX7 hown hK hP 0 rfl rfl 2 (by decide) (hts _ wd_185) (fun _ h9 => h9) rfl dX7_court_7 ?_
  have hFc : ∀ q, va_A [] _ q → A q := fun q h => hA q (Nat.le_trans hS.1 (va_nilA h))
  refine va_calli (va_runS (As := [.int p0, .int 0, .int iM_taped]) (rest := []) ⟨hx, hb, hml, hown, hts⟩ (tX7_in l dC dI _ p0 0 iM_taped ) (va_cwS 3 hts (wd_S wd_393 wd_394 wd_5 (wd_c wd_395)) rfl rfl rfl ds_yX7_in_3 ⟨Nat.le_of_ble_eq_true rfl, Nat.le_of_ble_eq_true rfl⟩) ⟨Pw.fb, fun U hU hW => Pn.to hK hE hS hA hU hW⟩ rfl rfl hl.1 rfl (lv_room (Nat.le_of_ble_eq_true rfl)) dX7_court_10 ⟨Nat.le_of_ble_eq_true rfl, Nat.le_of_ble_eq_true rfl⟩) hS (fun q _ h => hFc q h) hFc (fun r u t H locs ht hvm hw hB hz1 hk1 hS => ?_)
  obtain ⟨hP, hD, hK⟩ := Bw.same ht hvm hP hD hK hk1 hFc
  clear hz1 hk1 hvm ht hB
  have hq9 := hw.2
  have hw := hw.1
  obtain ⟨x_7277, rfl⟩ : ∃ z, z = r := ⟨_, rfl⟩
  have hq_x_7277 := hq9
  have hG := hG.trans (lt_eq hq_x_7277.symm)
  have bx_7277 := hw.1
  have dx_7277 := bz_tb bx_7277
  have px_7277 := hw.2
  rcases px_7277 with ⟨gx_7277, hx_7277⟩ | ⟨gx_7277, hx_7277⟩
  · skip
    have l9x_7277 := kc_0
    refine lv_if_ne (tgt := 22) hx hb dX7_court_13 (by decide) (fun c_7278 => ?_) (fun c_7278 => ?_)
    · skip
      have hG := hG.trans (if_neg c_7278)
      have gc_7278 := ti_ne c_7278 rfl kc_0
      replace gc_7278 : (-1) * x_7277.toInt + 1 ≤ 0 := om_e3003f79 gc_7278 dx_7277.1
      refine lv_aload_n hx hb dX7_court_22 rfl (lv_at hl 0 rfl) ?_
      refine lv_iconst (v := 0) hx hb dX7_court_23 (by decide) ?_
      refine va_put (D := (dC, dI)) (ci := 7) (v := .int 0) (ty := .int) (C := RX7) (T := TX7) (N := 48) hx hb hts inX7 tyX7 tyX7_ok nmX7 hown hK hP hD hS 0 rfl rfl 2 (by decide) (hts _ wd_185) (fun _ h9 => h9) rfl (by decide +kernel) rfl rfl (Nat.le_of_ble_eq_true rfl) dX7_court_24 (fun H locs hP hD hS => ?_)
      obtain ⟨hP, hD⟩ := wl2 (ws' := [(oc7 oM x_7275 rM_tape 0 iM_size iM_at iM_end iM_token iM_whole iM_nameSize iM_fault iM_place x_7276 rM_letters iM_failed iM_hasCourt rM_r rM_fresh rM_told rM_read rM_st rM_undone rM_kept iM_undos iM_images rM_fresher iM_fresherSize iM_scale iM_night rM_heardRow rM_cutRow iM_breaths iM_cutMany iM_allBreaths rM_trial rM_words iM_fewestBreaths iM_orderMany iM_orderSum iM_leastOrder rM_often iM_setMany iM_someOf iM_allOf iM_allWeight iM_enoughWeight iM_worthSum iM_firstRest iM_leastDrawn), (arI rM_tape kM_tape 900 fM_tape), (arI rM_letters kM_letters 8 fM_letters), (arI rM_r kM_r 287 fM_r), (arI rM_fresh kM_fresh 287 fM_fresh), (arI rM_told kM_told 90 fM_told), (arI rM_read kM_read 90 fM_read), (arI rM_st kM_st 90 fM_st), (arI rM_undone kM_undone 1440 fM_undone), (arI rM_kept kM_kept 270 fM_kept), (arI rM_fresher kM_fresher 8 fM_fresher)]) hP hD rfl
      refine lv_aload_n hx hb dX7_court_27 rfl (lv_at hl 0 rfl) ?_
      refine lv_iconst (v := 0) hx hb dX7_court_28 (by decide) ?_
      refine va_put (D := (dC, dI)) (ci := 7) (v := .int 0) (ty := .int) (C := RX7) (T := TX7) (N := 48) hx hb hts inX7 tyX7 tyX7_ok nmX7 hown hK hP hD hS 0 rfl rfl 9 (by decide) (hts _ wd_379) (fun _ h9 => h9) rfl (by decide +kernel) rfl rfl (Nat.le_of_ble_eq_true rfl) dX7_court_29 (fun H locs hP hD hS => ?_)
      obtain ⟨hP, hD⟩ := wl2 (ws' := [(oc7 oM x_7275 rM_tape 0 iM_size iM_at iM_end iM_token iM_whole iM_nameSize 0 iM_place x_7276 rM_letters iM_failed iM_hasCourt rM_r rM_fresh rM_told rM_read rM_st rM_undone rM_kept iM_undos iM_images rM_fresher iM_fresherSize iM_scale iM_night rM_heardRow rM_cutRow iM_breaths iM_cutMany iM_allBreaths rM_trial rM_words iM_fewestBreaths iM_orderMany iM_orderSum iM_leastOrder rM_often iM_setMany iM_someOf iM_allOf iM_allWeight iM_enoughWeight iM_worthSum iM_firstRest iM_leastDrawn), (arI rM_tape kM_tape 900 fM_tape), (arI rM_letters kM_letters 8 fM_letters), (arI rM_r kM_r 287 fM_r), (arI rM_fresh kM_fresh 287 fM_fresh), (arI rM_told kM_told 90 fM_told), (arI rM_read kM_read 90 fM_read), (arI rM_st kM_st 90 fM_st), (arI rM_undone kM_undone 1440 fM_undone), (arI rM_kept kM_kept 270 fM_kept), (arI rM_fresher kM_fresher 8 fM_fresher)]) hP hD rfl
      refine lv_aload_n hx hb dX7_court_32 rfl (lv_at hl 0 rfl) ?_
      refine lv_iconst (v := 0) hx hb dX7_court_33 (by decide) ?_
      refine va_put (D := (dC, dI)) (ci := 7) (v := .int 0) (ty := .boolean) (C := RX7) (T := TX7) (N := 48) hx hb hts inX7 tyX7 tyX7_ok nmX7 hown hK hP hD hS 0 rfl rfl 13 (by decide) (hts _ wd_380) (fun _ h9 => h9) rfl (by decide +kernel) rfl rfl (Nat.le_of_ble_eq_true rfl) dX7_court_34 (fun H locs hP hD hS => ?_)
      obtain ⟨hP, hD⟩ := wl2 (ws' := [(oc7 oM x_7275 rM_tape 0 iM_size iM_at iM_end iM_token iM_whole iM_nameSize 0 iM_place x_7276 rM_letters 0 iM_hasCourt rM_r rM_fresh rM_told rM_read rM_st rM_undone rM_kept iM_undos iM_images rM_fresher iM_fresherSize iM_scale iM_night rM_heardRow rM_cutRow iM_breaths iM_cutMany iM_allBreaths rM_trial rM_words iM_fewestBreaths iM_orderMany iM_orderSum iM_leastOrder rM_often iM_setMany iM_someOf iM_allOf iM_allWeight iM_enoughWeight iM_worthSum iM_firstRest iM_leastDrawn), (arI rM_tape kM_tape 900 fM_tape), (arI rM_letters kM_letters 8 fM_letters), (arI rM_r kM_r 287 fM_r), (arI rM_fresh kM_fresh 287 fM_fresh), (arI rM_told kM_told 90 fM_told), (arI rM_read kM_read 90 fM_read), (arI rM_st kM_st 90 fM_st), (arI rM_undone kM_undone 1440 fM_undone), (arI rM_kept kM_kept 270 fM_kept), (arI rM_fresher kM_fresher 8 fM_fresher)]) hP hD rfl
      refine lv_iconst (v := 0) hx hb dX7_court_37 (by decide) ?_
      refine lv_istore_n (lv' := [(2, .int 0), (0, .ref oM), (1, .int p0)]) hx hb dX7_court_38 rfl hl (by decide) rfl (fun ls hl => ?_)
      have hl := lv_sub hl (l' := [(2, .int 0), (0, .ref oM), (1, .int p0)]) [0, 1, 2] rfl
      have key_n_7281 : ∀ (n_7281 : Nat) (z_7279 : Int32) (f_7280 : Nat → Int32) (H : Heap) (locs : List Loc) (ls : Array Slot), (0 ≤ z_7279.toInt ∧ z_7279.toInt ≤ 287) → (ZerI z_7279.toNatClampNeg f_7280) → (287 - z_7279.toInt).toNat < n_7281 → (PX7_court fM_tape iM_taped iM_size iM_at iM_end iM_token iM_whole iM_nameSize iM_fault iM_place fM_letters iM_failed iM_hasCourt fM_r fM_fresh fM_told fM_read fM_st iM_undos iM_images fM_fresher iM_fresherSize iM_scale p0 = HX7_court_0 fM_tape iM_place fM_letters iM_hasCourt fM_r fM_told fM_read fM_st iM_undos iM_images fM_fresher iM_fresherSize iM_scale p0 x_7275 x_7276 n_7281 z_7279 f_7280) → va_P (dC, dI) vwCl [(oc7 oM x_7275 rM_tape 0 iM_size iM_at iM_end iM_token iM_whole iM_nameSize 0 iM_place x_7276 rM_letters 0 iM_hasCourt rM_r rM_fresh rM_told rM_read rM_st rM_undone rM_kept iM_undos iM_images rM_fresher iM_fresherSize iM_scale iM_night rM_heardRow rM_cutRow iM_breaths iM_cutMany iM_allBreaths rM_trial rM_words iM_fewestBreaths iM_orderMany iM_orderSum iM_leastOrder rM_often iM_setMany iM_someOf iM_allOf iM_allWeight iM_enoughWeight iM_worthSum iM_firstRest iM_leastDrawn), (arI rM_tape kM_tape 900 fM_tape), (arI rM_letters kM_letters 8 fM_letters), (arI rM_r kM_r 287 fM_r), (arI rM_fresh kM_fresh 287 f_7280), (arI rM_told kM_told 90 fM_told), (arI rM_read kM_read 90 fM_read), (arI rM_st kM_st 90 fM_st), (arI rM_undone kM_undone 1440 fM_undone), (arI rM_kept kM_kept 270 fM_kept), (arI rM_fresher kM_fresher 8 fM_fresher)] H → va_D A [(oc7 oM x_7275 rM_tape 0 iM_size iM_at iM_end iM_token iM_whole iM_nameSize 0 iM_place x_7276 rM_letters 0 iM_hasCourt rM_r rM_fresh rM_told rM_read rM_st rM_undone rM_kept iM_undos iM_images rM_fresher iM_fresherSize iM_scale iM_night rM_heardRow rM_cutRow iM_breaths iM_cutMany iM_allBreaths rM_trial rM_words iM_fewestBreaths iM_orderMany iM_orderSum iM_leastOrder rM_often iM_setMany iM_someOf iM_allOf iM_allWeight iM_enoughWeight iM_worthSum iM_firstRest iM_leastDrawn), (arI rM_tape kM_tape 900 fM_tape), (arI rM_letters kM_letters 8 fM_letters), (arI rM_r kM_r 287 fM_r), (arI rM_fresh kM_fresh 287 f_7280), (arI rM_told kM_told 90 fM_told), (arI rM_read kM_read 90 fM_read), (arI rM_st kM_st 90 fM_st), (arI rM_undone kM_undone 1440 fM_undone), (arI rM_kept kM_kept 270 fM_kept), (arI rM_fresher kM_fresher 8 fM_fresher)] → va_S A s.heap H locs → lv_has ls 3 [(2, .int z_7279), (0, .ref oM), (1, .int p0)] → W p l e (headSpec (Cond.code yX7_court cX7_court 3 (some .int) :: wG) ({ frames := 10, cells := 0, slots := 0, locals := 240 })).room s m ([.ref oM, .int p0] : List Value).toArray below meth c H locs 0 0 (MQ below (va_Qi (fun (r : Int32) (u : Nat) => (True ∧ True) ∧ r = Int32.ofNat u) (fun (u : Nat) (t : State) => ∃ (niM_thrown : Int32) (niM_taped : Int32) (niM_size : Int32) (niM_at : Int32) (niM_end : Int32) (niM_token : Int32) (niM_whole : Int32) (niM_nameSize : Int32) (niM_fault : Int32) (niM_place : Int32) (niM_trouble : Int32) (niM_failed : Int32) (niM_hasCourt : Int32) (niM_undos : Int32) (niM_images : Int32) (niM_fresherSize : Int32) (niM_scale : Int32) (nfM_letters : Nat → Int32) (nfM_r : Nat → Int32) (nfM_fresh : Nat → Int32) (nfM_told : Nat → Int32) (nfM_read : Nat → Int32) (nfM_st : Nat → Int32) (nfM_fresher : Nat → Int32), (0 ≤ niM_taped.toInt ∧ niM_taped.toInt ≤ 900) ∧ (0 ≤ niM_size.toInt ∧ niM_size.toInt ≤ 900) ∧ (0 ≤ niM_end.toInt ∧ niM_end.toInt ≤ 900) ∧ (0 ≤ niM_nameSize.toInt ∧ niM_nameSize.toInt ≤ 900) ∧ (0 ≤ niM_failed.toInt ∧ niM_failed.toInt ≤ 1) ∧ (0 ≤ niM_hasCourt.toInt ∧ niM_hasCourt.toInt ≤ 1) ∧ (0 ≤ niM_undos.toInt ∧ niM_undos.toInt ≤ 16) ∧ (0 ≤ niM_images.toInt ∧ niM_images.toInt ≤ 3) ∧ (1 ≤ niM_scale.toInt ∧ niM_scale.toInt ≤ 1296) ∧ (ROk nfM_r) ∧ (niM_hasCourt.toInt ≤ 0 ∨ (1 ≤ (nfM_r 1).toInt ∧ 0 ≤ (nfM_r 6).toInt ∧ (nfM_r 6).toInt < (nfM_r 1).toInt)) ∧ (RowOk nfM_r nfM_st) ∧ (RowOk nfM_r nfM_told) ∧ (WorOk nfM_st) ∧ (HistOk nfM_r fM_undone niM_undos.toInt) ∧ (HistOk nfM_r fM_kept niM_images.toInt) ∧ (ImpP (niM_token.toInt = 2) (niM_nameSize.toInt ≤ 8)) ∧ ((0 ≤ p0.toInt ∧ p0.toInt ≤ iM_taped.toInt ∧ niM_taped.toInt = 0) ∨ ((p0.toInt < 0 ∨ iM_taped.toInt < p0.toInt) ∧ niM_taped.toInt = iM_taped.toInt)) ∧ (PX7_court fM_tape iM_taped iM_size iM_at iM_end iM_token iM_whole iM_nameSize iM_fault iM_place fM_letters iM_failed iM_hasCourt fM_r fM_fresh fM_told fM_read fM_st iM_undos iM_images fM_fresher iM_fresherSize iM_scale p0 = (Int32.ofNat u, niM_thrown, niM_taped, niM_size, niM_at, niM_end, niM_token, niM_whole, niM_nameSize, niM_fault, niM_place, niM_trouble, niM_failed, niM_hasCourt, niM_undos, niM_images, niM_fresherSize, niM_scale, nfM_letters, nfM_r, nfM_fresh, nfM_told, nfM_read, nfM_st, nfM_fresher)) ∧ Bw dC dI A [(oc7 oM niM_thrown rM_tape niM_taped niM_size niM_at niM_end niM_token niM_whole niM_nameSize niM_fault niM_place niM_trouble rM_letters niM_failed niM_hasCourt rM_r rM_fresh rM_told rM_read rM_st rM_undone rM_kept niM_undos niM_images rM_fresher niM_fresherSize niM_scale iM_night rM_heardRow rM_cutRow iM_breaths iM_cutMany iM_allBreaths rM_trial rM_words iM_fewestBreaths iM_orderMany iM_orderSum iM_leastOrder rM_often iM_setMany iM_someOf iM_allOf iM_allWeight iM_enoughWeight iM_worthSum iM_firstRest iM_leastDrawn), (arI rM_tape kM_tape 900 fM_tape), (arI rM_letters kM_letters 8 nfM_letters), (arI rM_r kM_r 287 nfM_r), (arI rM_fresh kM_fresh 287 nfM_fresh), (arI rM_told kM_told 90 nfM_told), (arI rM_read kM_read 90 nfM_read), (arI rM_st kM_st 90 nfM_st), (arI rM_undone kM_undone 1440 fM_undone), (arI rM_kept kM_kept 270 fM_kept), (arI rM_fresher kM_fresher 8 nfM_fresher)] [(kM_tape, .int), (kM_letters, .int), (kM_r, .int), (kM_fresh, .int), (kM_told, .int), (kM_read, .int), (kM_st, .int), (kM_undone, .int), (kM_kept, .int), (kM_fresher, .int)] t) A) ([.ref oM, .int p0] : List Value).toArray s 0 0 A) (F0 m 39 ls []) := by
        intro n_7281
        induction n_7281 with
        | zero => intro z_7279 f_7280 H locs ls hi0_n_7281 hi1_n_7281 hm; exact absurd hm (Nat.not_lt_zero _)
        | succ n_7281 ih_n_7281 =>
          intro z_7279 f_7280 H locs ls hi0_n_7281 hi1_n_7281 hm_n_7281 hG hP hD hS hl
          have hG := hG.trans (HX7_court_0_eq _ _ _ _ _ _ _ _ _ _ _ _ _ _ _ _ _ _ _)
          refine lv_iload_n hx hb dX7_court_39 rfl (lv_at hl 0 rfl) ?_
          refine lv_sipush (v := 287) hx hb dX7_court_40 (by decide) ?_
          refine lv_icmp_ge (tgt := 59) hx hb dX7_court_43 (by decide) (fun c_7282 => ?_) (fun c_7282 => ?_)
          · skip
            have hG := hG.trans (if_pos c_7282)
            have gc_7282 := ti_le c_7282 kc_287 rfl
            refine lv_iconst (v := 0) hx hb dX7_court_59 (by decide) ?_
            refine lv_istore_n (lv' := [(2, .int 0), (0, .ref oM), (1, .int p0)]) hx hb dX7_court_60 rfl hl (by decide) rfl (fun ls hl => ?_)
            have hl := lv_sub hl (l' := [(2, .int 0), (0, .ref oM), (1, .int p0)]) [0, 1, 2] rfl
            have key_n_7285 : ∀ (n_7285 : Nat) (z_7283 : Int32) (f_7284 : Nat → Int32) (H : Heap) (locs : List Loc) (ls : Array Slot), (0 ≤ z_7283.toInt ∧ z_7283.toInt ≤ 90) → (ZerI z_7283.toNatClampNeg f_7284) → (90 - z_7283.toInt).toNat < n_7285 → (PX7_court fM_tape iM_taped iM_size iM_at iM_end iM_token iM_whole iM_nameSize iM_fault iM_place fM_letters iM_failed iM_hasCourt fM_r fM_fresh fM_told fM_read fM_st iM_undos iM_images fM_fresher iM_fresherSize iM_scale p0 = HX7_court_1 fM_tape iM_place fM_letters iM_hasCourt fM_r fM_told fM_st iM_undos iM_images fM_fresher iM_fresherSize iM_scale p0 x_7275 x_7276 f_7280 n_7285 z_7283 f_7284) → va_P (dC, dI) vwCl [(oc7 oM x_7275 rM_tape 0 iM_size iM_at iM_end iM_token iM_whole iM_nameSize 0 iM_place x_7276 rM_letters 0 iM_hasCourt rM_r rM_fresh rM_told rM_read rM_st rM_undone rM_kept iM_undos iM_images rM_fresher iM_fresherSize iM_scale iM_night rM_heardRow rM_cutRow iM_breaths iM_cutMany iM_allBreaths rM_trial rM_words iM_fewestBreaths iM_orderMany iM_orderSum iM_leastOrder rM_often iM_setMany iM_someOf iM_allOf iM_allWeight iM_enoughWeight iM_worthSum iM_firstRest iM_leastDrawn), (arI rM_tape kM_tape 900 fM_tape), (arI rM_letters kM_letters 8 fM_letters), (arI rM_r kM_r 287 fM_r), (arI rM_fresh kM_fresh 287 f_7280), (arI rM_told kM_told 90 fM_told), (arI rM_read kM_read 90 f_7284), (arI rM_st kM_st 90 fM_st), (arI rM_undone kM_undone 1440 fM_undone), (arI rM_kept kM_kept 270 fM_kept), (arI rM_fresher kM_fresher 8 fM_fresher)] H → va_D A [(oc7 oM x_7275 rM_tape 0 iM_size iM_at iM_end iM_token iM_whole iM_nameSize 0 iM_place x_7276 rM_letters 0 iM_hasCourt rM_r rM_fresh rM_told rM_read rM_st rM_undone rM_kept iM_undos iM_images rM_fresher iM_fresherSize iM_scale iM_night rM_heardRow rM_cutRow iM_breaths iM_cutMany iM_allBreaths rM_trial rM_words iM_fewestBreaths iM_orderMany iM_orderSum iM_leastOrder rM_often iM_setMany iM_someOf iM_allOf iM_allWeight iM_enoughWeight iM_worthSum iM_firstRest iM_leastDrawn), (arI rM_tape kM_tape 900 fM_tape), (arI rM_letters kM_letters 8 fM_letters), (arI rM_r kM_r 287 fM_r), (arI rM_fresh kM_fresh 287 f_7280), (arI rM_told kM_told 90 fM_told), (arI rM_read kM_read 90 f_7284), (arI rM_st kM_st 90 fM_st), (arI rM_undone kM_undone 1440 fM_undone), (arI rM_kept kM_kept 270 fM_kept), (arI rM_fresher kM_fresher 8 fM_fresher)] → va_S A s.heap H locs → lv_has ls 3 [(2, .int z_7283), (0, .ref oM), (1, .int p0)] → W p l e (headSpec (Cond.code yX7_court cX7_court 3 (some .int) :: wG) ({ frames := 10, cells := 0, slots := 0, locals := 240 })).room s m ([.ref oM, .int p0] : List Value).toArray below meth c H locs 0 0 (MQ below (va_Qi (fun (r : Int32) (u : Nat) => (True ∧ True) ∧ r = Int32.ofNat u) (fun (u : Nat) (t : State) => ∃ (niM_thrown : Int32) (niM_taped : Int32) (niM_size : Int32) (niM_at : Int32) (niM_end : Int32) (niM_token : Int32) (niM_whole : Int32) (niM_nameSize : Int32) (niM_fault : Int32) (niM_place : Int32) (niM_trouble : Int32) (niM_failed : Int32) (niM_hasCourt : Int32) (niM_undos : Int32) (niM_images : Int32) (niM_fresherSize : Int32) (niM_scale : Int32) (nfM_letters : Nat → Int32) (nfM_r : Nat → Int32) (nfM_fresh : Nat → Int32) (nfM_told : Nat → Int32) (nfM_read : Nat → Int32) (nfM_st : Nat → Int32) (nfM_fresher : Nat → Int32), (0 ≤ niM_taped.toInt ∧ niM_taped.toInt ≤ 900) ∧ (0 ≤ niM_size.toInt ∧ niM_size.toInt ≤ 900) ∧ (0 ≤ niM_end.toInt ∧ niM_end.toInt ≤ 900) ∧ (0 ≤ niM_nameSize.toInt ∧ niM_nameSize.toInt ≤ 900) ∧ (0 ≤ niM_failed.toInt ∧ niM_failed.toInt ≤ 1) ∧ (0 ≤ niM_hasCourt.toInt ∧ niM_hasCourt.toInt ≤ 1) ∧ (0 ≤ niM_undos.toInt ∧ niM_undos.toInt ≤ 16) ∧ (0 ≤ niM_images.toInt ∧ niM_images.toInt ≤ 3) ∧ (1 ≤ niM_scale.toInt ∧ niM_scale.toInt ≤ 1296) ∧ (ROk nfM_r) ∧ (niM_hasCourt.toInt ≤ 0 ∨ (1 ≤ (nfM_r 1).toInt ∧ 0 ≤ (nfM_r 6).toInt ∧ (nfM_r 6).toInt < (nfM_r 1).toInt)) ∧ (RowOk nfM_r nfM_st) ∧ (RowOk nfM_r nfM_told) ∧ (WorOk nfM_st) ∧ (HistOk nfM_r fM_undone niM_undos.toInt) ∧ (HistOk nfM_r fM_kept niM_images.toInt) ∧ (ImpP (niM_token.toInt = 2) (niM_nameSize.toInt ≤ 8)) ∧ ((0 ≤ p0.toInt ∧ p0.toInt ≤ iM_taped.toInt ∧ niM_taped.toInt = 0) ∨ ((p0.toInt < 0 ∨ iM_taped.toInt < p0.toInt) ∧ niM_taped.toInt = iM_taped.toInt)) ∧ (PX7_court fM_tape iM_taped iM_size iM_at iM_end iM_token iM_whole iM_nameSize iM_fault iM_place fM_letters iM_failed iM_hasCourt fM_r fM_fresh fM_told fM_read fM_st iM_undos iM_images fM_fresher iM_fresherSize iM_scale p0 = (Int32.ofNat u, niM_thrown, niM_taped, niM_size, niM_at, niM_end, niM_token, niM_whole, niM_nameSize, niM_fault, niM_place, niM_trouble, niM_failed, niM_hasCourt, niM_undos, niM_images, niM_fresherSize, niM_scale, nfM_letters, nfM_r, nfM_fresh, nfM_told, nfM_read, nfM_st, nfM_fresher)) ∧ Bw dC dI A [(oc7 oM niM_thrown rM_tape niM_taped niM_size niM_at niM_end niM_token niM_whole niM_nameSize niM_fault niM_place niM_trouble rM_letters niM_failed niM_hasCourt rM_r rM_fresh rM_told rM_read rM_st rM_undone rM_kept niM_undos niM_images rM_fresher niM_fresherSize niM_scale iM_night rM_heardRow rM_cutRow iM_breaths iM_cutMany iM_allBreaths rM_trial rM_words iM_fewestBreaths iM_orderMany iM_orderSum iM_leastOrder rM_often iM_setMany iM_someOf iM_allOf iM_allWeight iM_enoughWeight iM_worthSum iM_firstRest iM_leastDrawn), (arI rM_tape kM_tape 900 fM_tape), (arI rM_letters kM_letters 8 nfM_letters), (arI rM_r kM_r 287 nfM_r), (arI rM_fresh kM_fresh 287 nfM_fresh), (arI rM_told kM_told 90 nfM_told), (arI rM_read kM_read 90 nfM_read), (arI rM_st kM_st 90 nfM_st), (arI rM_undone kM_undone 1440 fM_undone), (arI rM_kept kM_kept 270 fM_kept), (arI rM_fresher kM_fresher 8 nfM_fresher)] [(kM_tape, .int), (kM_letters, .int), (kM_r, .int), (kM_fresh, .int), (kM_told, .int), (kM_read, .int), (kM_st, .int), (kM_undone, .int), (kM_kept, .int), (kM_fresher, .int)] t) A) ([.ref oM, .int p0] : List Value).toArray s 0 0 A) (F0 m 61 ls []) := by
              intro n_7285
              induction n_7285 with
              | zero => intro z_7283 f_7284 H locs ls hi0_n_7285 hi1_n_7285 hm; exact absurd hm (Nat.not_lt_zero _)
              | succ n_7285 ih_n_7285 =>
                intro z_7283 f_7284 H locs ls hi0_n_7285 hi1_n_7285 hm_n_7285 hG hP hD hS hl
                have hG := hG.trans (HX7_court_1_eq _ _ _ _ _ _ _ _ _ _ _ _ _ _ _ _ _ _ _)
                refine lv_iload_n hx hb dX7_court_61 rfl (lv_at hl 0 rfl) ?_
                refine lv_bipush (v := 90) hx hb dX7_court_62 (by decide) ?_
                refine lv_icmp_ge (tgt := 80) hx hb dX7_court_64 (by decide) (fun c_7286 => ?_) (fun c_7286 => ?_)
                · skip
                  have hG := hG.trans (if_pos c_7286)
                  have gc_7286 := ti_le c_7286 kc_90 rfl
                  refine lv_aload_n hx hb dX7_court_80 rfl (lv_at hl 1 rfl) ?_
                  refine va_get (D := (dC, dI)) (ci := 7) (v := .ref rM_fresh) (C := RX7) (T := TX7) (N := 48) hx hb hts inX7 hown hK hP 0 rfl rfl 16 (by decide) (hts _ wd_156) (fun _ h9 => h9) rfl dX7_court_81 ?_
                  refine lv_bipush (v := 6) hx hb dX7_court_84 (by decide) ?_
                  refine lv_iconst (v := (-1)) hx hb dX7_court_86 (by decide) ?_
                  refine va_iast hx hb hK hP hD hS 4 3 rfl rfl (by unfold vp_in; decide) dX7_court_87 (fun H locs hP hD hS => ?_)
                  obtain ⟨f_7287, ef_7287⟩ : ∃ g : Nat → Int32, g = upd f_7280 (6 : Int32).toNatClampNeg ((-1) : Int32) := ⟨_, rfl⟩
                  rw [← ef_7287] at hP hD
                  have hG := hG.trans (lt_eq ef_7287)
                  obtain ⟨hP, hD⟩ := wl2 (ws' := [(oc7 oM x_7275 rM_tape 0 iM_size iM_at iM_end iM_token iM_whole iM_nameSize 0 iM_place x_7276 rM_letters 0 iM_hasCourt rM_r rM_fresh rM_told rM_read rM_st rM_undone rM_kept iM_undos iM_images rM_fresher iM_fresherSize iM_scale iM_night rM_heardRow rM_cutRow iM_breaths iM_cutMany iM_allBreaths rM_trial rM_words iM_fewestBreaths iM_orderMany iM_orderSum iM_leastOrder rM_often iM_setMany iM_someOf iM_allOf iM_allWeight iM_enoughWeight iM_worthSum iM_firstRest iM_leastDrawn), (arI rM_tape kM_tape 900 fM_tape), (arI rM_letters kM_letters 8 fM_letters), (arI rM_r kM_r 287 fM_r), (arI rM_fresh kM_fresh 287 f_7287), (arI rM_told kM_told 90 fM_told), (arI rM_read kM_read 90 f_7284), (arI rM_st kM_st 90 fM_st), (arI rM_undone kM_undone 1440 fM_undone), (arI rM_kept kM_kept 270 fM_kept), (arI rM_fresher kM_fresher 8 fM_fresher)]) hP hD rfl
                  have zf9 : ZerI 287 f_7280 := by have h8 := hi1_n_7281; rw [show z_7279.toNatClampNeg = 287 from by have q1 := ti_cl (x := z_7279) rfl hi0_n_7281.1; omega] at h8; exact h8
                  have zr9 : ZerI 90 f_7284 := by have h8 := hi1_n_7285; rw [show z_7283.toNatClampNeg = 90 from by have q1 := ti_cl (x := z_7283) rfl hi0_n_7285.1; omega] at h8; exact h8
                  have pk_f_7287 : POk f_7287 f_7284 := POk.zero zf9 ef_7287 rfl kc_m1 zr9
                  have pl_f_7287 := pk_f_7287.lins
                  refine lv_aload_n hx hb dX7_court_88 rfl (lv_at hl 1 rfl) ?_
                  refine lv_iload_n hx hb dX7_court_89 rfl (lv_at hl 2 rfl) ?_
                  refine va_put (D := (dC, dI)) (ci := 7) (v := .int p0) (ty := .int) (C := RX7) (T := TX7) (N := 48) hx hb hts inX7 tyX7 tyX7_ok nmX7 hown hK hP hD hS 0 rfl rfl 3 (by decide) (hts _ wd_381) (fun _ h9 => h9) rfl (by decide +kernel) rfl rfl (Nat.le_of_ble_eq_true rfl) dX7_court_90 (fun H locs hP hD hS => ?_)
                  obtain ⟨hP, hD⟩ := wl2 (ws' := [(oc7 oM x_7275 rM_tape 0 p0 iM_at iM_end iM_token iM_whole iM_nameSize 0 iM_place x_7276 rM_letters 0 iM_hasCourt rM_r rM_fresh rM_told rM_read rM_st rM_undone rM_kept iM_undos iM_images rM_fresher iM_fresherSize iM_scale iM_night rM_heardRow rM_cutRow iM_breaths iM_cutMany iM_allBreaths rM_trial rM_words iM_fewestBreaths iM_orderMany iM_orderSum iM_leastOrder rM_often iM_setMany iM_someOf iM_allOf iM_allWeight iM_enoughWeight iM_worthSum iM_firstRest iM_leastDrawn), (arI rM_tape kM_tape 900 fM_tape), (arI rM_letters kM_letters 8 fM_letters), (arI rM_r kM_r 287 fM_r), (arI rM_fresh kM_fresh 287 f_7287), (arI rM_told kM_told 90 fM_told), (arI rM_read kM_read 90 f_7284), (arI rM_st kM_st 90 fM_st), (arI rM_undone kM_undone 1440 fM_undone), (arI rM_kept kM_kept 270 fM_kept), (arI rM_fresher kM_fresher 8 fM_fresher)]) hP hD rfl
                  refine lv_aload_n hx hb dX7_court_93 rfl (lv_at hl 1 rfl) ?_
                  refine lv_iconst (v := 0) hx hb dX7_court_94 (by decide) ?_
                  refine va_put (D := (dC, dI)) (ci := 7) (v := .int 0) (ty := .int) (C := RX7) (T := TX7) (N := 48) hx hb hts inX7 tyX7 tyX7_ok nmX7 hown hK hP hD hS 0 rfl rfl 5 (by decide) (hts _ wd_382) (fun _ h9 => h9) rfl (by decide +kernel) rfl rfl (Nat.le_of_ble_eq_true rfl) dX7_court_95 (fun H locs hP hD hS => ?_)
                  obtain ⟨hP, hD⟩ := wl2 (ws' := [(oc7 oM x_7275 rM_tape 0 p0 iM_at 0 iM_token iM_whole iM_nameSize 0 iM_place x_7276 rM_letters 0 iM_hasCourt rM_r rM_fresh rM_told rM_read rM_st rM_undone rM_kept iM_undos iM_images rM_fresher iM_fresherSize iM_scale iM_night rM_heardRow rM_cutRow iM_breaths iM_cutMany iM_allBreaths rM_trial rM_words iM_fewestBreaths iM_orderMany iM_orderSum iM_leastOrder rM_often iM_setMany iM_someOf iM_allOf iM_allWeight iM_enoughWeight iM_worthSum iM_firstRest iM_leastDrawn), (arI rM_tape kM_tape 900 fM_tape), (arI rM_letters kM_letters 8 fM_letters), (arI rM_r kM_r 287 fM_r), (arI rM_fresh kM_fresh 287 f_7287), (arI rM_told kM_told 90 fM_told), (arI rM_read kM_read 90 f_7284), (arI rM_st kM_st 90 fM_st), (arI rM_undone kM_undone 1440 fM_undone), (arI rM_kept kM_kept 270 fM_kept), (arI rM_fresher kM_fresher 8 fM_fresher)]) hP hD rfl
                  refine lv_aload_n hx hb dX7_court_98 rfl (lv_at hl 1 rfl) ?_
                  have hMs := ml_of hD [true, true, true, false, false, false, false, false, false, false, false] (wc := [(oc7 oM x_7275 rM_tape 0 p0 iM_at 0 iM_token iM_whole iM_nameSize 0 iM_place x_7276 rM_letters 0 iM_hasCourt rM_r rM_fresh rM_told rM_read rM_st rM_undone rM_kept iM_undos iM_images rM_fresher iM_fresherSize iM_scale iM_night rM_heardRow rM_cutRow iM_breaths iM_cutMany iM_allBreaths rM_trial rM_words iM_fewestBreaths iM_orderMany iM_orderSum iM_leastOrder rM_often iM_setMany iM_someOf iM_allOf iM_allWeight iM_enoughWeight iM_worthSum iM_firstRest iM_leastDrawn), (arI rM_tape kM_tape 900 fM_tape), (arI rM_letters kM_letters 8 fM_letters)]) rfl
                  have hFc := va_freeM hD hS hA _ hMs
                  refine va_callv (va_runV (As := []) (rest := []) ⟨hx, hb, hml, hown, hts⟩ (tX7_next l dC dI _ oM x_7275 rM_tape fM_tape kM_tape 0 p0 iM_at 0 iM_token iM_whole iM_nameSize 0 iM_place x_7276 rM_letters fM_letters kM_letters 0 iM_hasCourt rM_r rM_fresh rM_told rM_read rM_st rM_undone rM_kept iM_undos iM_images rM_fresher iM_fresherSize iM_scale iM_night rM_heardRow rM_cutRow iM_breaths iM_cutMany iM_allBreaths rM_trial rM_words iM_fewestBreaths iM_orderMany iM_orderSum iM_leastOrder rM_often iM_setMany iM_someOf iM_allOf iM_allWeight iM_enoughWeight iM_worthSum iM_firstRest iM_leastDrawn (by first | decide | omega) (by first | exact ⟨by omega, by omega⟩ | omega | decide) (by first | decide | omega) b_iM_nameSize (by first | decide | omega) b_iM_hasCourt b_iM_undos b_iM_images b_iM_scale b_iM_breaths b_iM_cutMany r_T) (cwV 0 hts (wd_V wd_400 wd_401 wd_402 wd_5 (wd_c wd_403)) rfl rfl rfl dv_yX7_next_0 ⟨Nat.le_of_ble_eq_true rfl, Nat.le_of_ble_eq_true rfl⟩) ⟨Pw.fb, recvX7 hK hP (q0 := 0) rfl, fun U hU hW => Pw.to (hP.ms _ hMs) (hD.ms _ hMs) (hK.ms [true, true, false, false, false, false, false, false, false, false] rfl) hE hS hFc hU hW⟩ rfl rfl hl.1 rfl (lv_room (Nat.le_of_ble_eq_true rfl)) dX7_court_99 ⟨Nat.le_of_ble_eq_true rfl, Nat.le_of_ble_eq_true rfl⟩) hS (fun q _ h => hFc q h) hFc (fun u t H locs ht hvm hw hB hz1 hk1 hS => ?_)
                  refine ex_6_6 hB (fun x_7288 x_7289 x_7290 x_7291 x_7292 f_7293 b_x_7289 b_x_7292 e_x_7288_0 e_x_7288_1 e_x_7288_2 e_x_7288_3 hB => ?_)
                  obtain ⟨hP, hD⟩ := Bw.goN (ws' := [(oc7 oM x_7275 rM_tape 0 p0 x_7288 x_7289 x_7290 x_7291 x_7292 0 iM_place x_7276 rM_letters 0 iM_hasCourt rM_r rM_fresh rM_told rM_read rM_st rM_undone rM_kept iM_undos iM_images rM_fresher iM_fresherSize iM_scale iM_night rM_heardRow rM_cutRow iM_breaths iM_cutMany iM_allBreaths rM_trial rM_words iM_fewestBreaths iM_orderMany iM_orderSum iM_leastOrder rM_often iM_setMany iM_someOf iM_allOf iM_allWeight iM_enoughWeight iM_worthSum iM_firstRest iM_leastDrawn), (arI rM_tape kM_tape 900 fM_tape), (arI rM_letters kM_letters 8 f_7293), (arI rM_r kM_r 287 fM_r), (arI rM_fresh kM_fresh 287 f_7287), (arI rM_told kM_told 90 fM_told), (arI rM_read kM_read 90 f_7284), (arI rM_st kM_st 90 fM_st), (arI rM_undone kM_undone 1440 fM_undone), (arI rM_kept kM_kept 270 fM_kept), (arI rM_fresher kM_fresher 8 fM_fresher)]) hB rfl ht hP hD _ hMs hk1 hFc rfl
                  clear hz1 hk1 hvm ht hB hMs
                  have hG := hG.trans (un6_eq e_x_7288_3)
                  clear r_T
                  refine lv_aload_n hx hb dX7_court_102 rfl (lv_at hl 1 rfl) ?_
                  have hMs := ml_of hD [true, true, true, false, true, false, true, false, false, false, true] (wc := [(oc7 oM x_7275 rM_tape 0 p0 x_7288 x_7289 x_7290 x_7291 x_7292 0 iM_place x_7276 rM_letters 0 iM_hasCourt rM_r rM_fresh rM_told rM_read rM_st rM_undone rM_kept iM_undos iM_images rM_fresher iM_fresherSize iM_scale iM_night rM_heardRow rM_cutRow iM_breaths iM_cutMany iM_allBreaths rM_trial rM_words iM_fewestBreaths iM_orderMany iM_orderSum iM_leastOrder rM_often iM_setMany iM_someOf iM_allOf iM_allWeight iM_enoughWeight iM_worthSum iM_firstRest iM_leastDrawn), (arI rM_tape kM_tape 900 fM_tape), (arI rM_letters kM_letters 8 f_7293), (arI rM_fresh kM_fresh 287 f_7287), (arI rM_read kM_read 90 f_7284), (arI rM_fresher kM_fresher 8 fM_fresher)]) rfl
                  have hFc := va_freeM hD hS hA _ hMs
                  refine va_callv (va_runV (As := []) (rest := []) ⟨hx, hb, hml, hown, hts⟩ (tX7_readLine l dC dI _ oM x_7275 rM_tape fM_tape kM_tape 0 p0 x_7288 x_7289 x_7290 x_7291 x_7292 0 iM_place x_7276 rM_letters f_7293 kM_letters 0 iM_hasCourt rM_r rM_fresh f_7287 kM_fresh rM_told rM_read f_7284 kM_read rM_st rM_undone rM_kept iM_undos iM_images rM_fresher fM_fresher kM_fresher iM_fresherSize iM_scale iM_night rM_heardRow rM_cutRow iM_breaths iM_cutMany iM_allBreaths rM_trial rM_words iM_fewestBreaths iM_orderMany iM_orderSum iM_leastOrder rM_often iM_setMany iM_someOf iM_allOf iM_allWeight iM_enoughWeight iM_worthSum iM_firstRest iM_leastDrawn (by first | decide | omega) (by first | exact ⟨by omega, by omega⟩ | omega | decide) b_x_7289 b_x_7292 (by first | decide | omega) b_iM_hasCourt b_iM_undos b_iM_images b_iM_scale b_iM_breaths b_iM_cutMany e_x_7288_1 pk_f_7287) (cwV 0 hts (wd_V wd_416 wd_417 wd_418 wd_5 (wd_c wd_419)) rfl rfl rfl dv_yX7_readLine_0 ⟨Nat.le_of_ble_eq_true rfl, Nat.le_of_ble_eq_true rfl⟩) ⟨Pw.fb, recvX7 hK hP (q0 := 0) rfl, fun U hU hW => Pw.to (hP.ms _ hMs) (hD.ms _ hMs) (hK.ms [true, true, false, true, false, true, false, false, false, true] rfl) hE hS hFc hU hW⟩ rfl rfl hl.1 rfl (lv_room (Nat.le_of_ble_eq_true rfl)) dX7_court_103 ⟨Nat.le_of_ble_eq_true rfl, Nat.le_of_ble_eq_true rfl⟩) hS (fun q _ h => hFc q h) hFc (fun u t H locs ht hvm hw hB hz1 hk1 hS => ?_)
                  refine ex_13_9 hB (fun x_7294 x_7295 x_7296 x_7297 x_7298 x_7299 x_7300 x_7301 x_7302 f_7303 f_7304 f_7305 f_7306 b_x_7295 b_x_7298 b_x_7301 e_x_7294_0 e_x_7294_1 e_x_7294_2 e_x_7294_3 e_x_7294_4 e_x_7294_5 hB => ?_)
                  obtain ⟨hP, hD⟩ := Bw.goN (ws' := [(oc7 oM x_7275 rM_tape 0 p0 x_7294 x_7295 x_7296 x_7297 x_7298 x_7299 x_7300 x_7276 rM_letters x_7301 iM_hasCourt rM_r rM_fresh rM_told rM_read rM_st rM_undone rM_kept iM_undos iM_images rM_fresher x_7302 iM_scale iM_night rM_heardRow rM_cutRow iM_breaths iM_cutMany iM_allBreaths rM_trial rM_words iM_fewestBreaths iM_orderMany iM_orderSum iM_leastOrder rM_often iM_setMany iM_someOf iM_allOf iM_allWeight iM_enoughWeight iM_worthSum iM_firstRest iM_leastDrawn), (arI rM_tape kM_tape 900 fM_tape), (arI rM_letters kM_letters 8 f_7303), (arI rM_r kM_r 287 fM_r), (arI rM_fresh kM_fresh 287 f_7304), (arI rM_told kM_told 90 fM_told), (arI rM_read kM_read 90 f_7305), (arI rM_st kM_st 90 fM_st), (arI rM_undone kM_undone 1440 fM_undone), (arI rM_kept kM_kept 270 fM_kept), (arI rM_fresher kM_fresher 8 f_7306)]) hB rfl ht hP hD _ hMs hk1 hFc rfl
                  clear hz1 hk1 hvm ht hB hMs
                  have pl_f_7304 := e_x_7294_4.lins
                  have hG := hG.trans (un13_eq e_x_7294_5)
                  clear e_x_7288_1
                  clear e_x_7288_2
                  have hl := lv_sub hl (l' := [(2, .int z_7283), (0, .ref oM), (1, .int p0)]) [0, 1, 2] rfl
                  have key_n_7320 : ∀ (n_7320 : Nat) (z_7307 : Int32) (z_7308 : Int32) (z_7309 : Int32) (z_7310 : Int32) (z_7311 : Int32) (z_7312 : Int32) (z_7313 : Int32) (z_7314 : Int32) (z_7315 : Int32) (f_7316 : Nat → Int32) (f_7317 : Nat → Int32) (f_7318 : Nat → Int32) (f_7319 : Nat → Int32) (H : Heap) (locs : List Loc) (ls : Array Slot), (0 ≤ z_7308.toInt ∧ z_7308.toInt ≤ 900) → (0 ≤ z_7311.toInt ∧ z_7311.toInt ≤ 900) → (0 ≤ z_7314.toInt ∧ z_7314.toInt ≤ 1) → (POk f_7317 f_7318) → (ImpP (z_7309.toInt = 2) (z_7311.toInt ≤ 8)) → crtM z_7314.toInt z_7309.toInt z_7308.toInt < n_7320 → (PX7_court fM_tape iM_taped iM_size iM_at iM_end iM_token iM_whole iM_nameSize iM_fault iM_place fM_letters iM_failed iM_hasCourt fM_r fM_fresh fM_told fM_read fM_st iM_undos iM_images fM_fresher iM_fresherSize iM_scale p0 = HX7_court_2 fM_tape iM_hasCourt fM_r fM_told fM_st iM_undos iM_images iM_scale p0 x_7275 x_7276 n_7320 z_7307 z_7308 z_7309 z_7310 z_7311 z_7312 z_7313 z_7314 z_7315 f_7316 f_7317 f_7318 f_7319) → va_P (dC, dI) vwCl [(oc7 oM x_7275 rM_tape 0 p0 z_7307 z_7308 z_7309 z_7310 z_7311 z_7312 z_7313 x_7276 rM_letters z_7314 iM_hasCourt rM_r rM_fresh rM_told rM_read rM_st rM_undone rM_kept iM_undos iM_images rM_fresher z_7315 iM_scale iM_night rM_heardRow rM_cutRow iM_breaths iM_cutMany iM_allBreaths rM_trial rM_words iM_fewestBreaths iM_orderMany iM_orderSum iM_leastOrder rM_often iM_setMany iM_someOf iM_allOf iM_allWeight iM_enoughWeight iM_worthSum iM_firstRest iM_leastDrawn), (arI rM_tape kM_tape 900 fM_tape), (arI rM_letters kM_letters 8 f_7316), (arI rM_r kM_r 287 fM_r), (arI rM_fresh kM_fresh 287 f_7317), (arI rM_told kM_told 90 fM_told), (arI rM_read kM_read 90 f_7318), (arI rM_st kM_st 90 fM_st), (arI rM_undone kM_undone 1440 fM_undone), (arI rM_kept kM_kept 270 fM_kept), (arI rM_fresher kM_fresher 8 f_7319)] H → va_D A [(oc7 oM x_7275 rM_tape 0 p0 z_7307 z_7308 z_7309 z_7310 z_7311 z_7312 z_7313 x_7276 rM_letters z_7314 iM_hasCourt rM_r rM_fresh rM_told rM_read rM_st rM_undone rM_kept iM_undos iM_images rM_fresher z_7315 iM_scale iM_night rM_heardRow rM_cutRow iM_breaths iM_cutMany iM_allBreaths rM_trial rM_words iM_fewestBreaths iM_orderMany iM_orderSum iM_leastOrder rM_often iM_setMany iM_someOf iM_allOf iM_allWeight iM_enoughWeight iM_worthSum iM_firstRest iM_leastDrawn), (arI rM_tape kM_tape 900 fM_tape), (arI rM_letters kM_letters 8 f_7316), (arI rM_r kM_r 287 fM_r), (arI rM_fresh kM_fresh 287 f_7317), (arI rM_told kM_told 90 fM_told), (arI rM_read kM_read 90 f_7318), (arI rM_st kM_st 90 fM_st), (arI rM_undone kM_undone 1440 fM_undone), (arI rM_kept kM_kept 270 fM_kept), (arI rM_fresher kM_fresher 8 f_7319)] → va_S A s.heap H locs → lv_has ls 3 [(2, .int z_7283), (0, .ref oM), (1, .int p0)] → W p l e (headSpec (Cond.code yX7_court cX7_court 3 (some .int) :: wG) ({ frames := 10, cells := 0, slots := 0, locals := 240 })).room s m ([.ref oM, .int p0] : List Value).toArray below meth c H locs 0 0 (MQ below (va_Qi (fun (r : Int32) (u : Nat) => (True ∧ True) ∧ r = Int32.ofNat u) (fun (u : Nat) (t : State) => ∃ (niM_thrown : Int32) (niM_taped : Int32) (niM_size : Int32) (niM_at : Int32) (niM_end : Int32) (niM_token : Int32) (niM_whole : Int32) (niM_nameSize : Int32) (niM_fault : Int32) (niM_place : Int32) (niM_trouble : Int32) (niM_failed : Int32) (niM_hasCourt : Int32) (niM_undos : Int32) (niM_images : Int32) (niM_fresherSize : Int32) (niM_scale : Int32) (nfM_letters : Nat → Int32) (nfM_r : Nat → Int32) (nfM_fresh : Nat → Int32) (nfM_told : Nat → Int32) (nfM_read : Nat → Int32) (nfM_st : Nat → Int32) (nfM_fresher : Nat → Int32), (0 ≤ niM_taped.toInt ∧ niM_taped.toInt ≤ 900) ∧ (0 ≤ niM_size.toInt ∧ niM_size.toInt ≤ 900) ∧ (0 ≤ niM_end.toInt ∧ niM_end.toInt ≤ 900) ∧ (0 ≤ niM_nameSize.toInt ∧ niM_nameSize.toInt ≤ 900) ∧ (0 ≤ niM_failed.toInt ∧ niM_failed.toInt ≤ 1) ∧ (0 ≤ niM_hasCourt.toInt ∧ niM_hasCourt.toInt ≤ 1) ∧ (0 ≤ niM_undos.toInt ∧ niM_undos.toInt ≤ 16) ∧ (0 ≤ niM_images.toInt ∧ niM_images.toInt ≤ 3) ∧ (1 ≤ niM_scale.toInt ∧ niM_scale.toInt ≤ 1296) ∧ (ROk nfM_r) ∧ (niM_hasCourt.toInt ≤ 0 ∨ (1 ≤ (nfM_r 1).toInt ∧ 0 ≤ (nfM_r 6).toInt ∧ (nfM_r 6).toInt < (nfM_r 1).toInt)) ∧ (RowOk nfM_r nfM_st) ∧ (RowOk nfM_r nfM_told) ∧ (WorOk nfM_st) ∧ (HistOk nfM_r fM_undone niM_undos.toInt) ∧ (HistOk nfM_r fM_kept niM_images.toInt) ∧ (ImpP (niM_token.toInt = 2) (niM_nameSize.toInt ≤ 8)) ∧ ((0 ≤ p0.toInt ∧ p0.toInt ≤ iM_taped.toInt ∧ niM_taped.toInt = 0) ∨ ((p0.toInt < 0 ∨ iM_taped.toInt < p0.toInt) ∧ niM_taped.toInt = iM_taped.toInt)) ∧ (PX7_court fM_tape iM_taped iM_size iM_at iM_end iM_token iM_whole iM_nameSize iM_fault iM_place fM_letters iM_failed iM_hasCourt fM_r fM_fresh fM_told fM_read fM_st iM_undos iM_images fM_fresher iM_fresherSize iM_scale p0 = (Int32.ofNat u, niM_thrown, niM_taped, niM_size, niM_at, niM_end, niM_token, niM_whole, niM_nameSize, niM_fault, niM_place, niM_trouble, niM_failed, niM_hasCourt, niM_undos, niM_images, niM_fresherSize, niM_scale, nfM_letters, nfM_r, nfM_fresh, nfM_told, nfM_read, nfM_st, nfM_fresher)) ∧ Bw dC dI A [(oc7 oM niM_thrown rM_tape niM_taped niM_size niM_at niM_end niM_token niM_whole niM_nameSize niM_fault niM_place niM_trouble rM_letters niM_failed niM_hasCourt rM_r rM_fresh rM_told rM_read rM_st rM_undone rM_kept niM_undos niM_images rM_fresher niM_fresherSize niM_scale iM_night rM_heardRow rM_cutRow iM_breaths iM_cutMany iM_allBreaths rM_trial rM_words iM_fewestBreaths iM_orderMany iM_orderSum iM_leastOrder rM_often iM_setMany iM_someOf iM_allOf iM_allWeight iM_enoughWeight iM_worthSum iM_firstRest iM_leastDrawn), (arI rM_tape kM_tape 900 fM_tape), (arI rM_letters kM_letters 8 nfM_letters), (arI rM_r kM_r 287 nfM_r), (arI rM_fresh kM_fresh 287 nfM_fresh), (arI rM_told kM_told 90 nfM_told), (arI rM_read kM_read 90 nfM_read), (arI rM_st kM_st 90 nfM_st), (arI rM_undone kM_undone 1440 fM_undone), (arI rM_kept kM_kept 270 fM_kept), (arI rM_fresher kM_fresher 8 nfM_fresher)] [(kM_tape, .int), (kM_letters, .int), (kM_r, .int), (kM_fresh, .int), (kM_told, .int), (kM_read, .int), (kM_st, .int), (kM_undone, .int), (kM_kept, .int), (kM_fresher, .int)] t) A) ([.ref oM, .int p0] : List Value).toArray s 0 0 A) (F0 m 106 ls []) := by
                    intro n_7320
                    induction n_7320 with
                    | zero => intro z_7307 z_7308 z_7309 z_7310 z_7311 z_7312 z_7313 z_7314 z_7315 f_7316 f_7317 f_7318 f_7319 H locs ls b_z_7308 b_z_7311 b_z_7314 hi0_n_7320 hi1_n_7320 hm; exact absurd hm (Nat.not_lt_zero _)
                    | succ n_7320 ih_n_7320 =>
                      intro z_7307 z_7308 z_7309 z_7310 z_7311 z_7312 z_7313 z_7314 z_7315 f_7316 f_7317 f_7318 f_7319 H locs ls b_z_7308 b_z_7311 b_z_7314 hi0_n_7320 hi1_n_7320 hm_n_7320 hG hP hD hS hl
                      have hG := hG.trans (HX7_court_2_eq _ _ _ _ _ _ _ _ _ _ _ _ _ _ _ _ _ _ _ _ _ _ _ _ _)
                      have pl_f_7317 := hi0_n_7320.lins
                      refine lv_aload_n hx hb dX7_court_106 rfl (lv_at hl 1 rfl) ?_
                      refine va_get (D := (dC, dI)) (ci := 7) (v := .int z_7314) (C := RX7) (T := TX7) (N := 48) hx hb hts inX7 hown hK hP 0 rfl rfl 13 (by decide) (hts _ wd_380) (fun _ h9 => h9) rfl dX7_court_107 ?_
                      refine lv_if_ne (tgt := 133) hx hb dX7_court_110 (by decide) (fun c_7321 => ?_) (fun c_7321 => ?_)
                      · skip
                        have hG := hG.trans (if_neg c_7321)
                        have gc_7321 := ti_ne c_7321 rfl kc_0
                        replace gc_7321 : (-1) * z_7314.toInt + 1 ≤ 0 := om_e3003f79 gc_7321 b_z_7314.1
                        refine lv_aload_n hx hb dX7_court_133 rfl (lv_at hl 1 rfl) ?_
                        refine va_get (D := (dC, dI)) (ci := 7) (v := .int z_7314) (C := RX7) (T := TX7) (N := 48) hx hb hts inX7 hown hK hP 0 rfl rfl 13 (by decide) (hts _ wd_380) (fun _ h9 => h9) rfl dX7_court_134 ?_
                        refine lv_if_ne (tgt := 156) hx hb dX7_court_137 (by decide) (fun c_7322 => ?_) (fun c_7322 => ?_)
                        · skip
                          have hG := hG.trans (if_neg c_7322)
                          have gc_7322 := ti_ne c_7322 rfl kc_0
                          replace gc_7322 : (-1) * z_7314.toInt + 1 ≤ 0 := om_e3003f79 gc_7322 b_z_7314.1
                          refine lv_aload_n hx hb dX7_court_156 rfl (lv_at hl 1 rfl) ?_
                          refine va_get (D := (dC, dI)) (ci := 7) (v := .int z_7314) (C := RX7) (T := TX7) (N := 48) hx hb hts inX7 hown hK hP 0 rfl rfl 13 (by decide) (hts _ wd_380) (fun _ h9 => h9) rfl dX7_court_157 ?_
                          refine lv_if_ne (tgt := 191) hx hb dX7_court_160 (by decide) (fun c_7323 => ?_) (fun c_7323 => ?_)
                          · skip
                            have hG := hG.trans (if_neg c_7323)
                            have gc_7323 := ti_ne c_7323 rfl kc_0
                            replace gc_7323 : (-1) * z_7314.toInt + 1 ≤ 0 := om_e3003f79 gc_7323 b_z_7314.1
                            refine lv_aload_n hx hb dX7_court_191 rfl (lv_at hl 1 rfl) ?_
                            refine va_get (D := (dC, dI)) (ci := 7) (v := .int z_7314) (C := RX7) (T := TX7) (N := 48) hx hb hts inX7 hown hK hP 0 rfl rfl 13 (by decide) (hts _ wd_380) (fun _ h9 => h9) rfl dX7_court_192 ?_
                            refine lv_if_eq (tgt := 204) hx hb dX7_court_195 (by decide) (fun c_7324 => ?_) (fun c_7324 => ?_)
                            · skip
                              have hG := hG.trans (if_pos c_7324)
                              have gc_7324 := ti_eq c_7324 rfl kc_0
                              exact ((om_77e4ddb5 gc_7321 gc_7324)).elim
                            · skip
                              have hG := hG.trans (if_neg c_7324)
                              have gc_7324 := ti_ne c_7324 rfl kc_0
                              replace gc_7324 : (-1) * z_7314.toInt + 1 ≤ 0 := om_e3003f79 gc_7324 b_z_7314.1
                              refine lv_aload_n hx hb dX7_court_198 rfl (lv_at hl 1 rfl) ?_
                              refine lv_iconst (v := 4) hx hb dX7_court_199 (by decide) ?_
                              have hMs := ml_of hD [true, false, false, false, false, false, false, false, false, false, false] (wc := [(oc7 oM x_7275 rM_tape 0 p0 z_7307 z_7308 z_7309 z_7310 z_7311 z_7312 z_7313 x_7276 rM_letters z_7314 iM_hasCourt rM_r rM_fresh rM_told rM_read rM_st rM_undone rM_kept iM_undos iM_images rM_fresher z_7315 iM_scale iM_night rM_heardRow rM_cutRow iM_breaths iM_cutMany iM_allBreaths rM_trial rM_words iM_fewestBreaths iM_orderMany iM_orderSum iM_leastOrder rM_often iM_setMany iM_someOf iM_allOf iM_allWeight iM_enoughWeight iM_worthSum iM_firstRest iM_leastDrawn)]) rfl
                              have hFc := va_freeM hD hS hA _ hMs
                              refine va_calli (va_runV (As := [.int 4]) (rest := []) ⟨hx, hb, hml, hown, hts⟩ (tX7_no l dC dI _ oM x_7275 rM_tape 0 p0 z_7307 z_7308 z_7309 z_7310 z_7311 z_7312 z_7313 x_7276 rM_letters z_7314 iM_hasCourt rM_r rM_fresh rM_told rM_read rM_st rM_undone rM_kept iM_undos iM_images rM_fresher z_7315 iM_scale iM_night rM_heardRow rM_cutRow iM_breaths iM_cutMany iM_allBreaths rM_trial rM_words iM_fewestBreaths iM_orderMany iM_orderSum iM_leastOrder rM_often iM_setMany iM_someOf iM_allOf iM_allWeight iM_enoughWeight iM_worthSum iM_firstRest iM_leastDrawn 4 (by first | decide | omega) (by first | exact ⟨by omega, by omega⟩ | omega | decide) b_z_7308 b_z_7314 b_iM_hasCourt b_iM_undos b_iM_images b_iM_scale b_iM_breaths b_iM_cutMany) (cwV 1 hts (wd_V wd_396 wd_397 wd_398 wd_5 (wd_c wd_399)) rfl rfl rfl dv_yX7_no_1 ⟨Nat.le_of_ble_eq_true rfl, Nat.le_of_ble_eq_true rfl⟩) ⟨Pw.fb, recvX7 hK hP (q0 := 0) rfl, fun U hU hW => Pw.to (hP.ms _ hMs) (hD.ms _ hMs) (hK.ms [false, false, false, false, false, false, false, false, false, false] rfl) hE hS hFc hU hW⟩ rfl rfl hl.1 rfl (lv_room (Nat.le_of_ble_eq_true rfl)) dX7_court_200 ⟨Nat.le_of_ble_eq_true rfl, Nat.le_of_ble_eq_true rfl⟩) hS (fun q _ h => hFc q h) hFc (fun r u t H locs ht hvm hw hB hz1 hk1 hS => ?_)
                              have hru9 := hw.2
                              have hw := hw.1
                              refine ex_1_1 hB (fun x_7325 e_x_7325_0 hB => ?_)
                              obtain ⟨hP, hD⟩ := Bw.goN (ws' := [(oc7 oM x_7275 rM_tape 0 p0 z_7307 z_7308 z_7309 z_7310 z_7311 z_7312 z_7313 x_7325 rM_letters z_7314 iM_hasCourt rM_r rM_fresh rM_told rM_read rM_st rM_undone rM_kept iM_undos iM_images rM_fresher z_7315 iM_scale iM_night rM_heardRow rM_cutRow iM_breaths iM_cutMany iM_allBreaths rM_trial rM_words iM_fewestBreaths iM_orderMany iM_orderSum iM_leastOrder rM_often iM_setMany iM_someOf iM_allOf iM_allWeight iM_enoughWeight iM_worthSum iM_firstRest iM_leastDrawn), (arI rM_tape kM_tape 900 fM_tape), (arI rM_letters kM_letters 8 f_7316), (arI rM_r kM_r 287 fM_r), (arI rM_fresh kM_fresh 287 f_7317), (arI rM_told kM_told 90 fM_told), (arI rM_read kM_read 90 f_7318), (arI rM_st kM_st 90 fM_st), (arI rM_undone kM_undone 1440 fM_undone), (arI rM_kept kM_kept 270 fM_kept), (arI rM_fresher kM_fresher 8 f_7319)]) hB rfl ht hP hD _ hMs hk1 hFc rfl
                              clear hz1 hk1 hvm ht hB hMs
                              rw [← hru9] at e_x_7325_0
                              obtain ⟨x_7326, rfl⟩ : ∃ z, z = r := ⟨_, rfl⟩
                              have hG := hG.trans (un2_eq e_x_7325_0)
                              exact wq_i hx hb hr (cI x_7326) ⟨⟨trivial, trivial⟩, (cI_of x_7326)⟩ (fun t ht hW => ⟨x_7275, 0, p0, z_7307, z_7308, z_7309, z_7310, z_7311, z_7312, z_7313, x_7325, z_7314, iM_hasCourt, iM_undos, iM_images, z_7315, iM_scale, f_7316, fM_r, f_7317, fM_told, f_7318, fM_st, f_7319, (by decide), ⟨by omega, by omega⟩, b_z_7308, b_z_7311, b_z_7314, ⟨b_iM_hasCourt.1, b_iM_hasCourt.2⟩, ⟨b_iM_undos.1, b_iM_undos.2⟩, ⟨b_iM_images.1, b_iM_images.2⟩, ⟨b_iM_scale.1, b_iM_scale.2⟩, (by have q0 := kc_0; have q1 := kc_1; first | assumption | omega), (by have q0 := kc_0; have q1 := kc_1; first | assumption | omega), (by have q0 := kc_0; have q1 := kc_1; first | assumption | omega), (by have q0 := kc_0; have q1 := kc_1; first | assumption | omega), (by have q0 := kc_0; have q1 := kc_1; first | assumption | omega), (by have q0 := kc_0; have q1 := kc_1; first | assumption | omega), (by have q0 := kc_0; have q1 := kc_1; first | assumption | omega), hi1_n_7320, (by have q0 := kc_0; have q1 := kc_1; first | assumption | omega), (cI_tup hG), Bw.to hP hD hK ht hW⟩) hS dX7_court_203 hlocks
                          · skip
                            have hG := hG.trans (if_pos c_7323)
                            have gc_7323 := ti_eq c_7323 rfl kc_0
                            exact ((om_77e4ddb5 gc_7321 gc_7323)).elim
                        · skip
                          have hG := hG.trans (if_pos c_7322)
                          have gc_7322 := ti_eq c_7322 rfl kc_0
                          exact ((om_77e4ddb5 gc_7321 gc_7322)).elim
                      · skip
                        have hG := hG.trans (if_pos c_7321)
                        have gc_7321 := ti_eq c_7321 rfl kc_0
                        refine lv_aload_n hx hb dX7_court_113 rfl (lv_at hl 1 rfl) ?_
                        refine va_get (D := (dC, dI)) (ci := 7) (v := .int z_7309) (C := RX7) (T := TX7) (N := 48) hx hb hts inX7 hown hK hP 0 rfl rfl 6 (by decide) (hts _ wd_383) (fun _ h9 => h9) rfl dX7_court_114 ?_
                        refine lv_bipush (v := 59) hx hb dX7_court_117 (by decide) ?_
                        refine lv_icmp_ne (tgt := 133) hx hb dX7_court_119 (by decide) (fun c_7327 => ?_) (fun c_7327 => ?_)
                        · skip
                          have hG := hG.trans (if_neg c_7327)
                          have gc_7327 := ti_ne c_7327 rfl kc_59
                          clear gc_7327
                          refine lv_aload_n hx hb dX7_court_133 rfl (lv_at hl 1 rfl) ?_
                          refine va_get (D := (dC, dI)) (ci := 7) (v := .int z_7314) (C := RX7) (T := TX7) (N := 48) hx hb hts inX7 hown hK hP 0 rfl rfl 13 (by decide) (hts _ wd_380) (fun _ h9 => h9) rfl dX7_court_134 ?_
                          refine lv_if_ne (tgt := 156) hx hb dX7_court_137 (by decide) (fun c_7328 => ?_) (fun c_7328 => ?_)
                          · skip
                            have hG := hG.trans (if_neg c_7328)
                            have gc_7328 := ti_ne c_7328 rfl kc_0
                            replace gc_7328 : z_7314.toInt + 1 ≤ 0 := om_f992525b gc_7328 gc_7321
                            exact ((om_5185113d b_z_7314.1 gc_7328)).elim
                          · skip
                            have hG := hG.trans (if_pos c_7328)
                            have gc_7328 := ti_eq c_7328 rfl kc_0
                            refine lv_aload_n hx hb dX7_court_140 rfl (lv_at hl 1 rfl) ?_
                            refine va_get (D := (dC, dI)) (ci := 7) (v := .int z_7309) (C := RX7) (T := TX7) (N := 48) hx hb hts inX7 hown hK hP 0 rfl rfl 6 (by decide) (hts _ wd_383) (fun _ h9 => h9) rfl dX7_court_141 ?_
                            refine lv_if_eq (tgt := 156) hx hb dX7_court_144 (by decide) (fun c_7329 => ?_) (fun c_7329 => ?_)
                            · skip
                              have hG := hG.trans (if_pos c_7329)
                              have gc_7329 := ti_eq c_7329 rfl kc_0
                              refine lv_aload_n hx hb dX7_court_156 rfl (lv_at hl 1 rfl) ?_
                              refine va_get (D := (dC, dI)) (ci := 7) (v := .int z_7314) (C := RX7) (T := TX7) (N := 48) hx hb hts inX7 hown hK hP 0 rfl rfl 13 (by decide) (hts _ wd_380) (fun _ h9 => h9) rfl dX7_court_157 ?_
                              refine lv_if_ne (tgt := 191) hx hb dX7_court_160 (by decide) (fun c_7330 => ?_) (fun c_7330 => ?_)
                              · skip
                                have hG := hG.trans (if_neg c_7330)
                                have gc_7330 := ti_ne c_7330 rfl kc_0
                                replace gc_7330 : z_7314.toInt + 1 ≤ 0 := om_f992525b gc_7330 gc_7321
                                exact ((om_5185113d b_z_7314.1 gc_7330)).elim
                              · skip
                                have hG := hG.trans (if_pos c_7330)
                                have gc_7330 := ti_eq c_7330 rfl kc_0
                                refine lv_aload_n hx hb dX7_court_163 rfl (lv_at hl 1 rfl) ?_
                                refine va_get (D := (dC, dI)) (ci := 7) (v := .ref rM_fresh) (C := RX7) (T := TX7) (N := 48) hx hb hts inX7 hown hK hP 0 rfl rfl 16 (by decide) (hts _ wd_156) (fun _ h9 => h9) rfl dX7_court_164 ?_
                                refine lv_iconst (v := 5) hx hb dX7_court_167 (by decide) ?_
                                refine va_iald hx hb hK hP 4 3 rfl rfl (by unfold vp_in; decide) dX7_court_168 ?_
                                refine lv_topi (fun x_7331 ex_7331 => ?_)
                                have hG := hG.trans (lt_eq ex_7331)
                                have cx_7331 : (f_7317 5).toInt = x_7331.toInt := congrArg Int32.toInt (show f_7317 5 = x_7331 from ex_7331.symm)
                                refine lv_if_eq (tgt := 181) hx hb dX7_court_169 (by decide) (fun c_7332 => ?_) (fun c_7332 => ?_)
                                · skip
                                  have hG := hG.trans (if_pos c_7332)
                                  have gc_7332 := ti_eq c_7332 rfl kc_0
                                  refine lv_aload_n hx hb dX7_court_181 rfl (lv_at hl 1 rfl) ?_
                                  refine lv_bipush (v := 6) hx hb dX7_court_182 (by decide) ?_
                                  refine lv_aload_n hx hb dX7_court_184 rfl (lv_at hl 1 rfl) ?_
                                  refine va_get (D := (dC, dI)) (ci := 7) (v := .int z_7307) (C := RX7) (T := TX7) (N := 48) hx hb hts inX7 hown hK hP 0 rfl rfl 4 (by decide) (hts _ wd_384) (fun _ h9 => h9) rfl dX7_court_185 ?_
                                  have hMs := ml_of hD [true, false, false, false, false, false, false, false, false, false, false] (wc := [(oc7 oM x_7275 rM_tape 0 p0 z_7307 z_7308 z_7309 z_7310 z_7311 z_7312 z_7313 x_7276 rM_letters z_7314 iM_hasCourt rM_r rM_fresh rM_told rM_read rM_st rM_undone rM_kept iM_undos iM_images rM_fresher z_7315 iM_scale iM_night rM_heardRow rM_cutRow iM_breaths iM_cutMany iM_allBreaths rM_trial rM_words iM_fewestBreaths iM_orderMany iM_orderSum iM_leastOrder rM_often iM_setMany iM_someOf iM_allOf iM_allWeight iM_enoughWeight iM_worthSum iM_firstRest iM_leastDrawn)]) rfl
                                  have hFc := va_freeM hD hS hA _ hMs
                                  refine va_callv (va_runV (As := [.int 6, .int z_7307]) (rest := []) ⟨hx, hb, hml, hown, hts⟩ (tX7_wrong l dC dI _ oM x_7275 rM_tape 0 p0 z_7307 z_7308 z_7309 z_7310 z_7311 z_7312 z_7313 x_7276 rM_letters z_7314 iM_hasCourt rM_r rM_fresh rM_told rM_read rM_st rM_undone rM_kept iM_undos iM_images rM_fresher z_7315 iM_scale iM_night rM_heardRow rM_cutRow iM_breaths iM_cutMany iM_allBreaths rM_trial rM_words iM_fewestBreaths iM_orderMany iM_orderSum iM_leastOrder rM_often iM_setMany iM_someOf iM_allOf iM_allWeight iM_enoughWeight iM_worthSum iM_firstRest iM_leastDrawn 6 z_7307 (by first | decide | omega) (by first | exact ⟨by omega, by omega⟩ | omega | decide) b_z_7308 b_z_7311 b_z_7314 b_iM_hasCourt b_iM_undos b_iM_images b_iM_scale b_iM_breaths b_iM_cutMany hi1_n_7320) (cwV 2 hts (wd_V wd_430 wd_431 wd_432 wd_5 (wd_c wd_433)) rfl rfl rfl dv_yX7_wrong_2 ⟨Nat.le_of_ble_eq_true rfl, Nat.le_of_ble_eq_true rfl⟩) ⟨Pw.fb, recvX7 hK hP (q0 := 0) rfl, fun U hU hW => Pw.to (hP.ms _ hMs) (hD.ms _ hMs) (hK.ms [false, false, false, false, false, false, false, false, false, false] rfl) hE hS hFc hU hW⟩ rfl rfl hl.1 rfl (lv_room (Nat.le_of_ble_eq_true rfl)) dX7_court_188 ⟨Nat.le_of_ble_eq_true rfl, Nat.le_of_ble_eq_true rfl⟩) hS (fun q _ h => hFc q h) hFc (fun u t H locs ht hvm hw hB hz1 hk1 hS => ?_)
                                  refine ex_3_3 hB (fun x_7333 x_7334 x_7335 b_x_7335 e_x_7333_0 e_x_7333_1 hB => ?_)
                                  obtain ⟨hP, hD⟩ := Bw.goN (ws' := [(oc7 oM x_7275 rM_tape 0 p0 z_7307 z_7308 z_7309 z_7310 z_7311 x_7333 x_7334 x_7276 rM_letters x_7335 iM_hasCourt rM_r rM_fresh rM_told rM_read rM_st rM_undone rM_kept iM_undos iM_images rM_fresher z_7315 iM_scale iM_night rM_heardRow rM_cutRow iM_breaths iM_cutMany iM_allBreaths rM_trial rM_words iM_fewestBreaths iM_orderMany iM_orderSum iM_leastOrder rM_often iM_setMany iM_someOf iM_allOf iM_allWeight iM_enoughWeight iM_worthSum iM_firstRest iM_leastDrawn), (arI rM_tape kM_tape 900 fM_tape), (arI rM_letters kM_letters 8 f_7316), (arI rM_r kM_r 287 fM_r), (arI rM_fresh kM_fresh 287 f_7317), (arI rM_told kM_told 90 fM_told), (arI rM_read kM_read 90 f_7318), (arI rM_st kM_st 90 fM_st), (arI rM_undone kM_undone 1440 fM_undone), (arI rM_kept kM_kept 270 fM_kept), (arI rM_fresher kM_fresher 8 f_7319)]) hB rfl ht hP hD _ hMs hk1 hFc rfl
                                  clear hz1 hk1 hvm ht hB hMs
                                  have hG := hG.trans (un3_eq e_x_7333_1)
                                  refine lv_aload_n hx hb dX7_court_191 rfl (lv_at hl 1 rfl) ?_
                                  refine va_get (D := (dC, dI)) (ci := 7) (v := .int x_7335) (C := RX7) (T := TX7) (N := 48) hx hb hts inX7 hown hK hP 0 rfl rfl 13 (by decide) (hts _ wd_380) (fun _ h9 => h9) rfl dX7_court_192 ?_
                                  refine lv_if_eq (tgt := 204) hx hb dX7_court_195 (by decide) (fun c_7336 => ?_) (fun c_7336 => ?_)
                                  · skip
                                    have hG := hG.trans (if_pos c_7336)
                                    have gc_7336 := ti_eq c_7336 rfl kc_0
                                    exact ((om_b1155cdc e_x_7333_0 gc_7336)).elim
                                  · skip
                                    have hG := hG.trans (if_neg c_7336)
                                    have gc_7336 := ti_ne c_7336 rfl kc_0
                                    replace gc_7336 : (-1) * x_7335.toInt + 1 ≤ 0 := om_e3003f79 gc_7336 b_x_7335.1
                                    refine lv_aload_n hx hb dX7_court_198 rfl (lv_at hl 1 rfl) ?_
                                    refine lv_iconst (v := 4) hx hb dX7_court_199 (by decide) ?_
                                    have hMs := ml_of hD [true, false, false, false, false, false, false, false, false, false, false] (wc := [(oc7 oM x_7275 rM_tape 0 p0 z_7307 z_7308 z_7309 z_7310 z_7311 x_7333 x_7334 x_7276 rM_letters x_7335 iM_hasCourt rM_r rM_fresh rM_told rM_read rM_st rM_undone rM_kept iM_undos iM_images rM_fresher z_7315 iM_scale iM_night rM_heardRow rM_cutRow iM_breaths iM_cutMany iM_allBreaths rM_trial rM_words iM_fewestBreaths iM_orderMany iM_orderSum iM_leastOrder rM_often iM_setMany iM_someOf iM_allOf iM_allWeight iM_enoughWeight iM_worthSum iM_firstRest iM_leastDrawn)]) rfl
                                    have hFc := va_freeM hD hS hA _ hMs
                                    refine va_calli (va_runV (As := [.int 4]) (rest := []) ⟨hx, hb, hml, hown, hts⟩ (tX7_no l dC dI _ oM x_7275 rM_tape 0 p0 z_7307 z_7308 z_7309 z_7310 z_7311 x_7333 x_7334 x_7276 rM_letters x_7335 iM_hasCourt rM_r rM_fresh rM_told rM_read rM_st rM_undone rM_kept iM_undos iM_images rM_fresher z_7315 iM_scale iM_night rM_heardRow rM_cutRow iM_breaths iM_cutMany iM_allBreaths rM_trial rM_words iM_fewestBreaths iM_orderMany iM_orderSum iM_leastOrder rM_often iM_setMany iM_someOf iM_allOf iM_allWeight iM_enoughWeight iM_worthSum iM_firstRest iM_leastDrawn 4 (by first | decide | omega) (by first | exact ⟨by omega, by omega⟩ | omega | decide) b_z_7308 b_x_7335 b_iM_hasCourt b_iM_undos b_iM_images b_iM_scale b_iM_breaths b_iM_cutMany) (cwV 1 hts (wd_V wd_396 wd_397 wd_398 wd_5 (wd_c wd_399)) rfl rfl rfl dv_yX7_no_1 ⟨Nat.le_of_ble_eq_true rfl, Nat.le_of_ble_eq_true rfl⟩) ⟨Pw.fb, recvX7 hK hP (q0 := 0) rfl, fun U hU hW => Pw.to (hP.ms _ hMs) (hD.ms _ hMs) (hK.ms [false, false, false, false, false, false, false, false, false, false] rfl) hE hS hFc hU hW⟩ rfl rfl hl.1 rfl (lv_room (Nat.le_of_ble_eq_true rfl)) dX7_court_200 ⟨Nat.le_of_ble_eq_true rfl, Nat.le_of_ble_eq_true rfl⟩) hS (fun q _ h => hFc q h) hFc (fun r u t H locs ht hvm hw hB hz1 hk1 hS => ?_)
                                    have hru9 := hw.2
                                    have hw := hw.1
                                    refine ex_1_1 hB (fun x_7337 e_x_7337_0 hB => ?_)
                                    obtain ⟨hP, hD⟩ := Bw.goN (ws' := [(oc7 oM x_7275 rM_tape 0 p0 z_7307 z_7308 z_7309 z_7310 z_7311 x_7333 x_7334 x_7337 rM_letters x_7335 iM_hasCourt rM_r rM_fresh rM_told rM_read rM_st rM_undone rM_kept iM_undos iM_images rM_fresher z_7315 iM_scale iM_night rM_heardRow rM_cutRow iM_breaths iM_cutMany iM_allBreaths rM_trial rM_words iM_fewestBreaths iM_orderMany iM_orderSum iM_leastOrder rM_often iM_setMany iM_someOf iM_allOf iM_allWeight iM_enoughWeight iM_worthSum iM_firstRest iM_leastDrawn), (arI rM_tape kM_tape 900 fM_tape), (arI rM_letters kM_letters 8 f_7316), (arI rM_r kM_r 287 fM_r), (arI rM_fresh kM_fresh 287 f_7317), (arI rM_told kM_told 90 fM_told), (arI rM_read kM_read 90 f_7318), (arI rM_st kM_st 90 fM_st), (arI rM_undone kM_undone 1440 fM_undone), (arI rM_kept kM_kept 270 fM_kept), (arI rM_fresher kM_fresher 8 f_7319)]) hB rfl ht hP hD _ hMs hk1 hFc rfl
                                    clear hz1 hk1 hvm ht hB hMs
                                    rw [← hru9] at e_x_7337_0
                                    obtain ⟨x_7338, rfl⟩ : ∃ z, z = r := ⟨_, rfl⟩
                                    have hG := hG.trans (un2_eq e_x_7337_0)
                                    exact wq_i hx hb hr (cI x_7338) ⟨⟨trivial, trivial⟩, (cI_of x_7338)⟩ (fun t ht hW => ⟨x_7275, 0, p0, z_7307, z_7308, z_7309, z_7310, z_7311, x_7333, x_7334, x_7337, x_7335, iM_hasCourt, iM_undos, iM_images, z_7315, iM_scale, f_7316, fM_r, f_7317, fM_told, f_7318, fM_st, f_7319, (by decide), ⟨by omega, by omega⟩, b_z_7308, b_z_7311, b_x_7335, ⟨b_iM_hasCourt.1, b_iM_hasCourt.2⟩, ⟨b_iM_undos.1, b_iM_undos.2⟩, ⟨b_iM_images.1, b_iM_images.2⟩, ⟨b_iM_scale.1, b_iM_scale.2⟩, (by have q0 := kc_0; have q1 := kc_1; first | assumption | omega), (by have q0 := kc_0; have q1 := kc_1; first | assumption | omega), (by have q0 := kc_0; have q1 := kc_1; first | assumption | omega), (by have q0 := kc_0; have q1 := kc_1; first | assumption | omega), (by have q0 := kc_0; have q1 := kc_1; first | assumption | omega), (by have q0 := kc_0; have q1 := kc_1; first | assumption | omega), (by have q0 := kc_0; have q1 := kc_1; first | assumption | omega), hi1_n_7320, (by have q0 := kc_0; have q1 := kc_1; first | assumption | omega), (cI_tup hG), Bw.to hP hD hK ht hW⟩) hS dX7_court_203 hlocks
                                · skip
                                  have hG := hG.trans (if_neg c_7332)
                                  have gc_7332 := ti_ne c_7332 rfl kc_0
                                  clear gc_7332
                                  refine lv_aload_n hx hb dX7_court_172 rfl (lv_at hl 1 rfl) ?_
                                  refine va_get (D := (dC, dI)) (ci := 7) (v := .ref rM_fresh) (C := RX7) (T := TX7) (N := 48) hx hb hts inX7 hown hK hP 0 rfl rfl 16 (by decide) (hts _ wd_156) (fun _ h9 => h9) rfl dX7_court_173 ?_
                                  refine lv_iconst (v := 2) hx hb dX7_court_176 (by decide) ?_
                                  refine va_iald hx hb hK hP 4 3 rfl rfl (by unfold vp_in; decide) dX7_court_177 ?_
                                  refine lv_topi (fun x_7339 ex_7339 => ?_)
                                  have hG := hG.trans (lt_eq ex_7339)
                                  have cx_7339 : (f_7317 2).toInt = x_7339.toInt := congrArg Int32.toInt (show f_7317 2 = x_7339 from ex_7339.symm)
                                  refine lv_if_ne (tgt := 191) hx hb dX7_court_178 (by decide) (fun c_7340 => ?_) (fun c_7340 => ?_)
                                  · skip
                                    have hG := hG.trans (if_neg c_7340)
                                    have gc_7340 := ti_ne c_7340 rfl kc_0
                                    replace gc_7340 : (-1) * x_7339.toInt + 1 ≤ 0 := om_3ff8332a gc_7340 pl_f_7317.2.2.1.1 cx_7339
                                    refine lv_aload_n hx hb dX7_court_191 rfl (lv_at hl 1 rfl) ?_
                                    refine va_get (D := (dC, dI)) (ci := 7) (v := .int z_7314) (C := RX7) (T := TX7) (N := 48) hx hb hts inX7 hown hK hP 0 rfl rfl 13 (by decide) (hts _ wd_380) (fun _ h9 => h9) rfl dX7_court_192 ?_
                                    refine lv_if_eq (tgt := 204) hx hb dX7_court_195 (by decide) (fun c_7341 => ?_) (fun c_7341 => ?_)
                                    · skip
                                      have hG := hG.trans (if_pos c_7341)
                                      have gc_7341 := ti_eq c_7341 rfl kc_0
                                      refine lv_aload_n hx hb dX7_court_204 rfl (lv_at hl 1 rfl) ?_
                                      refine va_get (D := (dC, dI)) (ci := 7) (v := .ref rM_fresh) (C := RX7) (T := TX7) (N := 48) hx hb hts inX7 hown hK hP 0 rfl rfl 16 (by decide) (hts _ wd_156) (fun _ h9 => h9) rfl dX7_court_205 ?_
                                      refine lv_bipush (v := 6) hx hb dX7_court_208 (by decide) ?_
                                      refine va_iald hx hb hK hP 4 3 rfl rfl (by unfold vp_in; decide) dX7_court_210 ?_
                                      refine lv_topi (fun x_7342 ex_7342 => ?_)
                                      have hG := hG.trans (lt_eq ex_7342)
                                      have cx_7342 : (f_7317 6).toInt = x_7342.toInt := congrArg Int32.toInt (show f_7317 6 = x_7342 from ex_7342.symm)
                                      refine lv_if_ge (tgt := 229) hx hb dX7_court_211 (by decide) (fun c_7343 => ?_) (fun c_7343 => ?_)
                                      · skip
                                        have hG := hG.trans (if_pos c_7343)
                                        have gc_7343 := ti_le c_7343 kc_0 rfl
                                        refine lv_aload_n hx hb dX7_court_229 rfl (lv_at hl 1 rfl) ?_
                                        refine va_get (D := (dC, dI)) (ci := 7) (v := .ref rM_fresh) (C := RX7) (T := TX7) (N := 48) hx hb hts inX7 hown hK hP 0 rfl rfl 16 (by decide) (hts _ wd_156) (fun _ h9 => h9) rfl dX7_court_230 ?_
                                        refine lv_iconst (v := 0) hx hb dX7_court_233 (by decide) ?_
                                        refine lv_aload_n hx hb dX7_court_234 rfl (lv_at hl 1 rfl) ?_
                                        refine va_get (D := (dC, dI)) (ci := 7) (v := .ref rM_r) (C := RX7) (T := TX7) (N := 48) hx hb hts inX7 hown hK hP 0 rfl rfl 15 (by decide) (hts _ wd_155) (fun _ h9 => h9) rfl dX7_court_235 ?_
                                        refine lv_iconst (v := 0) hx hb dX7_court_238 (by decide) ?_
                                        refine lv_sipush (v := 287) hx hb dX7_court_239 (by decide) ?_
                                        have hFc := va_free (wc := [(arI rM_fresh kM_fresh 287 f_7317), (arI rM_r kM_r 287 fM_r)]) hD hS hA [4, 3] rfl
                                        refine va_callv (va_runS (As := [.ref rM_fresh, .int 0, .ref rM_r, .int 0, .int 287]) (rest := []) ⟨hx, hb, hml, hown, hts⟩ (tX7_copy_287_287 l dC dI _ rM_fresh f_7317 kM_fresh rM_r fM_r kM_r 0 0 287 ⟨(om_b1de7dbe kc_0), (om_b1de7dbe kc_0), (om_03d58641 kc_287)⟩ (om_29114139 kc_0 kc_287) (om_29114139 kc_0 kc_287)) (va_cwS 5 hts (wd_S wd_475 wd_476 wd_5 (wd_c wd_477)) rfl rfl rfl ds_yX7_copy_5 ⟨Nat.le_of_ble_eq_true rfl, Nat.le_of_ble_eq_true rfl⟩) ⟨Pw.fb, fun U hU hW => Pw.to (hP.sub [4, 3] rfl) (hD.sub [4, 3] (by decide) rfl) (hK.sub [3, 2] rfl) hE hS hFc hU hW⟩ rfl rfl hl.1 rfl (lv_room (Nat.le_of_ble_eq_true rfl)) dX7_court_242 ⟨Nat.le_of_ble_eq_true rfl, Nat.le_of_ble_eq_true rfl⟩) hS (fun q _ h => hFc q h) hFc (fun u t H locs ht hvm hw hB hz1 hk1 hS => ?_)
                                        refine ex_1_1 hB (fun f_7344 e_f_7344_0 hB => ?_)
                                        obtain ⟨hP, hD, hK⟩ := Bw.go (ws' := [(oc7 oM x_7275 rM_tape 0 p0 z_7307 z_7308 z_7309 z_7310 z_7311 z_7312 z_7313 x_7276 rM_letters z_7314 iM_hasCourt rM_r rM_fresh rM_told rM_read rM_st rM_undone rM_kept iM_undos iM_images rM_fresher z_7315 iM_scale iM_night rM_heardRow rM_cutRow iM_breaths iM_cutMany iM_allBreaths rM_trial rM_words iM_fewestBreaths iM_orderMany iM_orderSum iM_leastOrder rM_often iM_setMany iM_someOf iM_allOf iM_allWeight iM_enoughWeight iM_worthSum iM_firstRest iM_leastDrawn), (arI rM_tape kM_tape 900 fM_tape), (arI rM_letters kM_letters 8 f_7316), (arI rM_told kM_told 90 fM_told), (arI rM_read kM_read 90 f_7318), (arI rM_st kM_st 90 fM_st), (arI rM_undone kM_undone 1440 fM_undone), (arI rM_kept kM_kept 270 fM_kept), (arI rM_fresher kM_fresher 8 f_7319), (arI rM_fresh kM_fresh 287 f_7317), (arI rM_r kM_r 287 f_7344)]) (tys' := [(kM_tape, .int), (kM_letters, .int), (kM_told, .int), (kM_read, .int), (kM_st, .int), (kM_undone, .int), (kM_kept, .int), (kM_fresher, .int), (kM_fresh, .int), (kM_r, .int)]) hB rfl ht hvm hP hD hK [4, 3] [0, 1, 2, 5, 6, 7, 8, 9, 10] rfl (by decide) (by decide) [0, 1, 4, 5, 6, 7, 8, 9] hk1 hFc rfl rfl rfl
                                        clear hz1 hk1 hvm ht hB
                                        have cr9 := cp_all (m := 287) e_f_7344_0 rfl
                                        have r_R : ROk f_7344 := ROk.congr hi0_n_7320.1.toR cr9
                                        have rq9 : RowOk f_7344 f_7318 := RowOk.fr hi0_n_7320.2.1 (cr9 1 (by decide)) (fun k hk => cr9 _ (by omega))
                                        have o1_f_7344 : (f_7344 1).toInt = (f_7317 1).toInt := by rw [cr9 1 (by decide)]
                                        have o6_f_7344 : (f_7344 6).toInt = (f_7317 6).toInt := by rw [cr9 6 (by decide)]
                                        have s_nodes := r_R.nodes
                                        have hG := hG.trans (lt_eq (CopyOk.fn e_f_7344_0).symm)
                                        refine lv_aload_n hx hb dX7_court_245 rfl (lv_at hl 1 rfl) ?_
                                        refine va_get (D := (dC, dI)) (ci := 7) (v := .ref rM_read) (C := RX7) (T := TX7) (N := 48) hx hb hts inX7 hown hK hP 0 rfl rfl 18 (by decide) (hts _ wd_158) (fun _ h9 => h9) rfl dX7_court_246 ?_
                                        refine lv_iconst (v := 0) hx hb dX7_court_249 (by decide) ?_
                                        refine lv_aload_n hx hb dX7_court_250 rfl (lv_at hl 1 rfl) ?_
                                        refine va_get (D := (dC, dI)) (ci := 7) (v := .ref rM_told) (C := RX7) (T := TX7) (N := 48) hx hb hts inX7 hown hK hP 0 rfl rfl 17 (by decide) (hts _ wd_157) (fun _ h9 => h9) rfl dX7_court_251 ?_
                                        refine lv_iconst (v := 0) hx hb dX7_court_254 (by decide) ?_
                                        refine lv_bipush (v := 90) hx hb dX7_court_255 (by decide) ?_
                                        have hFc := va_free (wc := [(arI rM_read kM_read 90 f_7318), (arI rM_told kM_told 90 fM_told)]) hD hS hA [4, 3] rfl
                                        refine va_callv (va_runS (As := [.ref rM_read, .int 0, .ref rM_told, .int 0, .int 90]) (rest := []) ⟨hx, hb, hml, hown, hts⟩ (tX7_copy_90_90 l dC dI _ rM_read f_7318 kM_read rM_told fM_told kM_told 0 0 90 ⟨(om_b1de7dbe kc_0), (om_b1de7dbe kc_0), (om_34f60646 kc_90)⟩ (om_3b9d1022 kc_0 kc_90) (om_3b9d1022 kc_0 kc_90)) (va_cwS 5 hts (wd_S wd_475 wd_476 wd_5 (wd_c wd_477)) rfl rfl rfl ds_yX7_copy_5 ⟨Nat.le_of_ble_eq_true rfl, Nat.le_of_ble_eq_true rfl⟩) ⟨Pw.fb, fun U hU hW => Pw.to (hP.sub [4, 3] rfl) (hD.sub [4, 3] (by decide) rfl) (hK.sub [3, 2] rfl) hE hS hFc hU hW⟩ rfl rfl hl.1 rfl (lv_room (Nat.le_of_ble_eq_true rfl)) dX7_court_257 ⟨Nat.le_of_ble_eq_true rfl, Nat.le_of_ble_eq_true rfl⟩) hS (fun q _ h => hFc q h) hFc (fun u t H locs ht hvm hw hB hz1 hk1 hS => ?_)
                                        refine ex_1_1 hB (fun f_7345 e_f_7345_0 hB => ?_)
                                        obtain ⟨hP, hD, hK⟩ := Bw.go (ws' := [(oc7 oM x_7275 rM_tape 0 p0 z_7307 z_7308 z_7309 z_7310 z_7311 z_7312 z_7313 x_7276 rM_letters z_7314 iM_hasCourt rM_r rM_fresh rM_told rM_read rM_st rM_undone rM_kept iM_undos iM_images rM_fresher z_7315 iM_scale iM_night rM_heardRow rM_cutRow iM_breaths iM_cutMany iM_allBreaths rM_trial rM_words iM_fewestBreaths iM_orderMany iM_orderSum iM_leastOrder rM_often iM_setMany iM_someOf iM_allOf iM_allWeight iM_enoughWeight iM_worthSum iM_firstRest iM_leastDrawn), (arI rM_tape kM_tape 900 fM_tape), (arI rM_letters kM_letters 8 f_7316), (arI rM_st kM_st 90 fM_st), (arI rM_undone kM_undone 1440 fM_undone), (arI rM_kept kM_kept 270 fM_kept), (arI rM_fresher kM_fresher 8 f_7319), (arI rM_fresh kM_fresh 287 f_7317), (arI rM_r kM_r 287 f_7344), (arI rM_read kM_read 90 f_7318), (arI rM_told kM_told 90 f_7345)]) (tys' := [(kM_tape, .int), (kM_letters, .int), (kM_st, .int), (kM_undone, .int), (kM_kept, .int), (kM_fresher, .int), (kM_fresh, .int), (kM_r, .int), (kM_read, .int), (kM_told, .int)]) hB rfl ht hvm hP hD hK [4, 3] [0, 1, 2, 5, 6, 7, 8, 9, 10] rfl (by decide) (by decide) [0, 1, 4, 5, 6, 7, 8, 9] hk1 hFc rfl rfl rfl
                                        clear hz1 hk1 hvm ht hB
                                        have r_f_7345 : RowOk f_7344 f_7345 := RowOk.copy r_R rq9 e_f_7345_0
                                        have hG := hG.trans (lt_eq (CopyOk.fn e_f_7345_0).symm)
                                        refine lv_aload_n hx hb dX7_court_260 rfl (lv_at hl 1 rfl) ?_
                                        refine va_get (D := (dC, dI)) (ci := 7) (v := .ref rM_read) (C := RX7) (T := TX7) (N := 48) hx hb hts inX7 hown hK hP 0 rfl rfl 18 (by decide) (hts _ wd_158) (fun _ h9 => h9) rfl dX7_court_261 ?_
                                        refine lv_iconst (v := 0) hx hb dX7_court_264 (by decide) ?_
                                        refine lv_aload_n hx hb dX7_court_265 rfl (lv_at hl 1 rfl) ?_
                                        refine va_get (D := (dC, dI)) (ci := 7) (v := .ref rM_st) (C := RX7) (T := TX7) (N := 48) hx hb hts inX7 hown hK hP 0 rfl rfl 19 (by decide) (hts _ wd_159) (fun _ h9 => h9) rfl dX7_court_266 ?_
                                        refine lv_iconst (v := 0) hx hb dX7_court_269 (by decide) ?_
                                        refine lv_bipush (v := 90) hx hb dX7_court_270 (by decide) ?_
                                        have hFc := va_free (wc := [(arI rM_read kM_read 90 f_7318), (arI rM_st kM_st 90 fM_st)]) hD hS hA [9, 3] rfl
                                        refine va_callv (va_runS (As := [.ref rM_read, .int 0, .ref rM_st, .int 0, .int 90]) (rest := []) ⟨hx, hb, hml, hown, hts⟩ (tX7_copy_90_90 l dC dI _ rM_read f_7318 kM_read rM_st fM_st kM_st 0 0 90 ⟨(om_b1de7dbe kc_0), (om_b1de7dbe kc_0), (om_34f60646 kc_90)⟩ (om_3b9d1022 kc_0 kc_90) (om_3b9d1022 kc_0 kc_90)) (va_cwS 5 hts (wd_S wd_475 wd_476 wd_5 (wd_c wd_477)) rfl rfl rfl ds_yX7_copy_5 ⟨Nat.le_of_ble_eq_true rfl, Nat.le_of_ble_eq_true rfl⟩) ⟨Pw.fb, fun U hU hW => Pw.to (hP.sub [9, 3] rfl) (hD.sub [9, 3] (by decide) rfl) (hK.sub [8, 2] rfl) hE hS hFc hU hW⟩ rfl rfl hl.1 rfl (lv_room (Nat.le_of_ble_eq_true rfl)) dX7_court_272 ⟨Nat.le_of_ble_eq_true rfl, Nat.le_of_ble_eq_true rfl⟩) hS (fun q _ h => hFc q h) hFc (fun u t H locs ht hvm hw hB hz1 hk1 hS => ?_)
                                        refine ex_1_1 hB (fun f_7346 e_f_7346_0 hB => ?_)
                                        obtain ⟨hP, hD, hK⟩ := Bw.go (ws' := [(oc7 oM x_7275 rM_tape 0 p0 z_7307 z_7308 z_7309 z_7310 z_7311 z_7312 z_7313 x_7276 rM_letters z_7314 iM_hasCourt rM_r rM_fresh rM_told rM_read rM_st rM_undone rM_kept iM_undos iM_images rM_fresher z_7315 iM_scale iM_night rM_heardRow rM_cutRow iM_breaths iM_cutMany iM_allBreaths rM_trial rM_words iM_fewestBreaths iM_orderMany iM_orderSum iM_leastOrder rM_often iM_setMany iM_someOf iM_allOf iM_allWeight iM_enoughWeight iM_worthSum iM_firstRest iM_leastDrawn), (arI rM_tape kM_tape 900 fM_tape), (arI rM_letters kM_letters 8 f_7316), (arI rM_undone kM_undone 1440 fM_undone), (arI rM_kept kM_kept 270 fM_kept), (arI rM_fresher kM_fresher 8 f_7319), (arI rM_fresh kM_fresh 287 f_7317), (arI rM_r kM_r 287 f_7344), (arI rM_told kM_told 90 f_7345), (arI rM_read kM_read 90 f_7318), (arI rM_st kM_st 90 f_7346)]) (tys' := [(kM_tape, .int), (kM_letters, .int), (kM_undone, .int), (kM_kept, .int), (kM_fresher, .int), (kM_fresh, .int), (kM_r, .int), (kM_told, .int), (kM_read, .int), (kM_st, .int)]) hB rfl ht hvm hP hD hK [9, 3] [0, 1, 2, 4, 5, 6, 7, 8, 10] rfl (by decide) (by decide) [0, 1, 3, 4, 5, 6, 7, 9] hk1 hFc rfl rfl rfl
                                        clear hz1 hk1 hvm ht hB
                                        have r_f_7346 : RowOk f_7344 f_7346 := RowOk.copy r_R rq9 e_f_7346_0
                                        have w_f_7346 : WorOk f_7346 := WorOk.congr hi0_n_7320.2.2 (fun j _ h2 => cp_all (m := 90) e_f_7346_0 rfl j h2)
                                        have hG := hG.trans (lt_eq (CopyOk.fn e_f_7346_0).symm)
                                        refine lv_aload_n hx hb dX7_court_275 rfl (lv_at hl 1 rfl) ?_
                                        have hMs := ml_of hD [true, false, false, false, false, false, false, true, false, false, false] (wc := [(oc7 oM x_7275 rM_tape 0 p0 z_7307 z_7308 z_7309 z_7310 z_7311 z_7312 z_7313 x_7276 rM_letters z_7314 iM_hasCourt rM_r rM_fresh rM_told rM_read rM_st rM_undone rM_kept iM_undos iM_images rM_fresher z_7315 iM_scale iM_night rM_heardRow rM_cutRow iM_breaths iM_cutMany iM_allBreaths rM_trial rM_words iM_fewestBreaths iM_orderMany iM_orderSum iM_leastOrder rM_often iM_setMany iM_someOf iM_allOf iM_allWeight iM_enoughWeight iM_worthSum iM_firstRest iM_leastDrawn), (arI rM_r kM_r 287 f_7344)]) rfl
                                        have hFc := va_freeM hD hS hA _ hMs
                                        refine va_callv (va_runV (As := []) (rest := []) ⟨hx, hb, hml, hown, hts⟩ (tX7_layScale l dC dI _ oM x_7275 rM_tape 0 p0 z_7307 z_7308 z_7309 z_7310 z_7311 z_7312 z_7313 x_7276 rM_letters z_7314 iM_hasCourt rM_r f_7344 kM_r rM_fresh rM_told rM_read rM_st rM_undone rM_kept iM_undos iM_images rM_fresher z_7315 iM_scale iM_night rM_heardRow rM_cutRow iM_breaths iM_cutMany iM_allBreaths rM_trial rM_words iM_fewestBreaths iM_orderMany iM_orderSum iM_leastOrder rM_often iM_setMany iM_someOf iM_allOf iM_allWeight iM_enoughWeight iM_worthSum iM_firstRest iM_leastDrawn (by first | decide | omega) (by first | exact ⟨by omega, by omega⟩ | omega | decide) b_z_7308 b_z_7314 b_iM_hasCourt b_iM_undos b_iM_images b_iM_scale b_iM_breaths b_iM_cutMany (by assumption) (by first | assumption | omega)) (cwV 0 hts (wd_V wd_502 wd_503 wd_504 wd_5 (wd_c wd_505)) rfl rfl rfl dv_yX7_layScale_0 ⟨Nat.le_of_ble_eq_true rfl, Nat.le_of_ble_eq_true rfl⟩) ⟨Pw.fb, recvX7 hK hP (q0 := 0) rfl, fun U hU hW => Pw.to (hP.ms _ hMs) (hD.ms _ hMs) (hK.ms [false, false, false, false, false, false, true, false, false, false] rfl) hE hS hFc hU hW⟩ rfl rfl hl.1 rfl (lv_room (Nat.le_of_ble_eq_true rfl)) dX7_court_276 ⟨Nat.le_of_ble_eq_true rfl, Nat.le_of_ble_eq_true rfl⟩) hS (fun q _ h => hFc q h) hFc (fun u t H locs ht hvm hw hB hz1 hk1 hS => ?_)
                                        refine ex_1_2 hB (fun x_7347 b_x_7347 e_x_7347_0 hB => ?_)
                                        obtain ⟨hP, hD⟩ := Bw.goN (ws' := [(oc7 oM x_7275 rM_tape 0 p0 z_7307 z_7308 z_7309 z_7310 z_7311 z_7312 z_7313 x_7276 rM_letters z_7314 iM_hasCourt rM_r rM_fresh rM_told rM_read rM_st rM_undone rM_kept iM_undos iM_images rM_fresher z_7315 x_7347 iM_night rM_heardRow rM_cutRow iM_breaths iM_cutMany iM_allBreaths rM_trial rM_words iM_fewestBreaths iM_orderMany iM_orderSum iM_leastOrder rM_often iM_setMany iM_someOf iM_allOf iM_allWeight iM_enoughWeight iM_worthSum iM_firstRest iM_leastDrawn), (arI rM_tape kM_tape 900 fM_tape), (arI rM_letters kM_letters 8 f_7316), (arI rM_undone kM_undone 1440 fM_undone), (arI rM_kept kM_kept 270 fM_kept), (arI rM_fresher kM_fresher 8 f_7319), (arI rM_fresh kM_fresh 287 f_7317), (arI rM_r kM_r 287 f_7344), (arI rM_told kM_told 90 f_7345), (arI rM_read kM_read 90 f_7318), (arI rM_st kM_st 90 f_7346)]) hB rfl ht hP hD _ hMs hk1 hFc rfl
                                        clear hz1 hk1 hvm ht hB hMs
                                        have hG := hG.trans (lt_eq e_x_7347_0.symm)
                                        refine lv_aload_n hx hb dX7_court_279 rfl (lv_at hl 1 rfl) ?_
                                        refine lv_iconst (v := 1) hx hb dX7_court_280 (by decide) ?_
                                        refine va_put (D := (dC, dI)) (ci := 7) (v := .int 1) (ty := .boolean) (C := RX7) (T := TX7) (N := 48) hx hb hts inX7 tyX7 tyX7_ok nmX7 hown hK hP hD hS 0 rfl rfl 14 (by decide) (hts _ wd_385) (fun _ h9 => h9) rfl (by decide +kernel) rfl rfl (Nat.le_of_ble_eq_true rfl) dX7_court_281 (fun H locs hP hD hS => ?_)
                                        obtain ⟨hP, hD⟩ := wl2 (ws' := [(oc7 oM x_7275 rM_tape 0 p0 z_7307 z_7308 z_7309 z_7310 z_7311 z_7312 z_7313 x_7276 rM_letters z_7314 1 rM_r rM_fresh rM_told rM_read rM_st rM_undone rM_kept iM_undos iM_images rM_fresher z_7315 x_7347 iM_night rM_heardRow rM_cutRow iM_breaths iM_cutMany iM_allBreaths rM_trial rM_words iM_fewestBreaths iM_orderMany iM_orderSum iM_leastOrder rM_often iM_setMany iM_someOf iM_allOf iM_allWeight iM_enoughWeight iM_worthSum iM_firstRest iM_leastDrawn), (arI rM_tape kM_tape 900 fM_tape), (arI rM_letters kM_letters 8 f_7316), (arI rM_undone kM_undone 1440 fM_undone), (arI rM_kept kM_kept 270 fM_kept), (arI rM_fresher kM_fresher 8 f_7319), (arI rM_fresh kM_fresh 287 f_7317), (arI rM_r kM_r 287 f_7344), (arI rM_told kM_told 90 f_7345), (arI rM_read kM_read 90 f_7318), (arI rM_st kM_st 90 f_7346)]) hP hD rfl
                                        refine lv_aload_n hx hb dX7_court_284 rfl (lv_at hl 1 rfl) ?_
                                        refine lv_iconst (v := 0) hx hb dX7_court_285 (by decide) ?_
                                        refine va_put (D := (dC, dI)) (ci := 7) (v := .int 0) (ty := .int) (C := RX7) (T := TX7) (N := 48) hx hb hts inX7 tyX7 tyX7_ok nmX7 hown hK hP hD hS 0 rfl rfl 22 (by decide) (hts _ wd_386) (fun _ h9 => h9) rfl (by decide +kernel) rfl rfl (Nat.le_of_ble_eq_true rfl) dX7_court_286 (fun H locs hP hD hS => ?_)
                                        obtain ⟨hP, hD⟩ := wl2 (ws' := [(oc7 oM x_7275 rM_tape 0 p0 z_7307 z_7308 z_7309 z_7310 z_7311 z_7312 z_7313 x_7276 rM_letters z_7314 1 rM_r rM_fresh rM_told rM_read rM_st rM_undone rM_kept 0 iM_images rM_fresher z_7315 x_7347 iM_night rM_heardRow rM_cutRow iM_breaths iM_cutMany iM_allBreaths rM_trial rM_words iM_fewestBreaths iM_orderMany iM_orderSum iM_leastOrder rM_often iM_setMany iM_someOf iM_allOf iM_allWeight iM_enoughWeight iM_worthSum iM_firstRest iM_leastDrawn), (arI rM_tape kM_tape 900 fM_tape), (arI rM_letters kM_letters 8 f_7316), (arI rM_undone kM_undone 1440 fM_undone), (arI rM_kept kM_kept 270 fM_kept), (arI rM_fresher kM_fresher 8 f_7319), (arI rM_fresh kM_fresh 287 f_7317), (arI rM_r kM_r 287 f_7344), (arI rM_told kM_told 90 f_7345), (arI rM_read kM_read 90 f_7318), (arI rM_st kM_st 90 f_7346)]) hP hD rfl
                                        refine lv_aload_n hx hb dX7_court_289 rfl (lv_at hl 1 rfl) ?_
                                        refine lv_iconst (v := 0) hx hb dX7_court_290 (by decide) ?_
                                        refine va_put (D := (dC, dI)) (ci := 7) (v := .int 0) (ty := .int) (C := RX7) (T := TX7) (N := 48) hx hb hts inX7 tyX7 tyX7_ok nmX7 hown hK hP hD hS 0 rfl rfl 23 (by decide) (hts _ wd_387) (fun _ h9 => h9) rfl (by decide +kernel) rfl rfl (Nat.le_of_ble_eq_true rfl) dX7_court_291 (fun H locs hP hD hS => ?_)
                                        obtain ⟨hP, hD⟩ := wl2 (ws' := [(oc7 oM x_7275 rM_tape 0 p0 z_7307 z_7308 z_7309 z_7310 z_7311 z_7312 z_7313 x_7276 rM_letters z_7314 1 rM_r rM_fresh rM_told rM_read rM_st rM_undone rM_kept 0 0 rM_fresher z_7315 x_7347 iM_night rM_heardRow rM_cutRow iM_breaths iM_cutMany iM_allBreaths rM_trial rM_words iM_fewestBreaths iM_orderMany iM_orderSum iM_leastOrder rM_often iM_setMany iM_someOf iM_allOf iM_allWeight iM_enoughWeight iM_worthSum iM_firstRest iM_leastDrawn), (arI rM_tape kM_tape 900 fM_tape), (arI rM_letters kM_letters 8 f_7316), (arI rM_undone kM_undone 1440 fM_undone), (arI rM_kept kM_kept 270 fM_kept), (arI rM_fresher kM_fresher 8 f_7319), (arI rM_fresh kM_fresh 287 f_7317), (arI rM_r kM_r 287 f_7344), (arI rM_told kM_told 90 f_7345), (arI rM_read kM_read 90 f_7318), (arI rM_st kM_st 90 f_7346)]) hP hD rfl
                                        refine lv_aload_n hx hb dX7_court_294 rfl (lv_at hl 1 rfl) ?_
                                        refine va_get (D := (dC, dI)) (ci := 7) (v := .ref rM_r) (C := RX7) (T := TX7) (N := 48) hx hb hts inX7 hown hK hP 0 rfl rfl 15 (by decide) (hts _ wd_155) (fun _ h9 => h9) rfl dX7_court_295 ?_
                                        refine lv_iconst (v := 1) hx hb dX7_court_298 (by decide) ?_
                                        refine va_iald hx hb hK hP 7 6 rfl rfl (by unfold vp_in; decide) dX7_court_299 ?_
                                        refine lv_topi (fun x_7348 ex_7348 => ?_)
                                        have hG := hG.trans (lt_eq ex_7348)
                                        have cx_7348 : (f_7344 1).toInt = x_7348.toInt := congrArg Int32.toInt (show f_7344 1 = x_7348 from ex_7348.symm)
                                        have sx_7348 := r_R.nodes
                                        exact wq_i hx hb hr (cI x_7348) ⟨⟨trivial, trivial⟩, (cI_of x_7348)⟩ (fun t ht hW => ⟨x_7275, 0, p0, z_7307, z_7308, z_7309, z_7310, z_7311, z_7312, z_7313, x_7276, z_7314, 1, 0, 0, z_7315, x_7347, f_7316, f_7344, f_7317, f_7345, f_7318, f_7346, f_7319, (by decide), ⟨by omega, by omega⟩, b_z_7308, b_z_7311, b_z_7314, (by decide), (by decide), (by decide), b_x_7347, (by have q0 := kc_0; have q1 := kc_1; first | assumption | omega), (by have q0 := kc_0; have q1 := kc_1; first | assumption | omega), (by have q0 := kc_0; have q1 := kc_1; first | assumption | omega), (by have q0 := kc_0; have q1 := kc_1; first | assumption | omega), (by have q0 := kc_0; have q1 := kc_1; first | assumption | omega), (HistOk.none (by have q := kc_0; omega)), (HistOk.none (by have q := kc_0; omega)), hi1_n_7320, (by have q0 := kc_0; have q1 := kc_1; first | assumption | omega), (cI_tup hG), Bw.to (hP.sub [0, 1, 2, 7, 6, 8, 9, 10, 3, 4, 5] rfl) (hD.sub [0, 1, 2, 7, 6, 8, 9, 10, 3, 4, 5] (by decide) rfl) (hK.sub [0, 1, 6, 5, 7, 8, 9, 2, 3, 4] rfl) ht hW⟩) hS dX7_court_300 hlocks
                                      · skip
                                        have hG := hG.trans (if_neg c_7343)
                                        have gc_7343 := ti_nle c_7343 kc_0 rfl
                                        refine lv_aload_n hx hb dX7_court_214 rfl (lv_at hl 1 rfl) ?_
                                        refine va_get (D := (dC, dI)) (ci := 7) (v := .ref rM_fresh) (C := RX7) (T := TX7) (N := 48) hx hb hts inX7 hown hK hP 0 rfl rfl 16 (by decide) (hts _ wd_156) (fun _ h9 => h9) rfl dX7_court_215 ?_
                                        refine lv_bipush (v := 6) hx hb dX7_court_218 (by decide) ?_
                                        refine lv_aload_n hx hb dX7_court_220 rfl (lv_at hl 1 rfl) ?_
                                        refine va_get (D := (dC, dI)) (ci := 7) (v := .ref rM_fresh) (C := RX7) (T := TX7) (N := 48) hx hb hts inX7 hown hK hP 0 rfl rfl 16 (by decide) (hts _ wd_156) (fun _ h9 => h9) rfl dX7_court_221 ?_
                                        refine lv_iconst (v := 1) hx hb dX7_court_224 (by decide) ?_
                                        refine va_iald hx hb hK hP 4 3 rfl rfl (by unfold vp_in; decide) dX7_court_225 ?_
                                        refine lv_topi (fun x_7349 ex_7349 => ?_)
                                        have hG := hG.trans (lt_eq ex_7349)
                                        have cx_7349 : (f_7317 1).toInt = x_7349.toInt := congrArg Int32.toInt (show f_7317 1 = x_7349 from ex_7349.symm)
                                        refine lv_iconst (v := 1) hx hb dX7_court_226 (by decide) ?_
                                        refine lv_isub hx hb dX7_court_227 ?_
                                        refine lv_topi (fun x_7350 ex_7350 => ?_)
                                        have hG := hG.trans (lt_eq ex_7350)
                                        have vx_7350 : x_7350.toInt = x_7349.toInt + (-1) := om_89646172 (ti_sub ex_7350 rfl kc_1 (om_a5725a83 pl_f_7317.2.2.2.2.1.1 pl_f_7317.2.2.2.2.1.2 cx_7349) (om_1d5f9f43 pl_f_7317.2.1 pl_f_7317.2.2.1.2 pl_f_7317.2.2.2.2.2.1.2 cx_7349))
                                        refine va_iast hx hb hK hP hD hS 4 3 rfl rfl (by unfold vp_in; decide) dX7_court_228 (fun H locs hP hD hS => ?_)
                                        obtain ⟨f_7351, ef_7351⟩ : ∃ g : Nat → Int32, g = upd f_7317 (6 : Int32).toNatClampNeg x_7350 := ⟨_, rfl⟩
                                        rw [← ef_7351] at hP hD
                                        have hG := hG.trans (lt_eq ef_7351)
                                        obtain ⟨hP, hD⟩ := wl2 (ws' := [(oc7 oM x_7275 rM_tape 0 p0 z_7307 z_7308 z_7309 z_7310 z_7311 z_7312 z_7313 x_7276 rM_letters z_7314 iM_hasCourt rM_r rM_fresh rM_told rM_read rM_st rM_undone rM_kept iM_undos iM_images rM_fresher z_7315 iM_scale iM_night rM_heardRow rM_cutRow iM_breaths iM_cutMany iM_allBreaths rM_trial rM_words iM_fewestBreaths iM_orderMany iM_orderSum iM_leastOrder rM_often iM_setMany iM_someOf iM_allOf iM_allWeight iM_enoughWeight iM_worthSum iM_firstRest iM_leastDrawn), (arI rM_tape kM_tape 900 fM_tape), (arI rM_letters kM_letters 8 f_7316), (arI rM_r kM_r 287 fM_r), (arI rM_fresh kM_fresh 287 f_7351), (arI rM_told kM_told 90 fM_told), (arI rM_read kM_read 90 f_7318), (arI rM_st kM_st 90 fM_st), (arI rM_undone kM_undone 1440 fM_undone), (arI rM_kept kM_kept 270 fM_kept), (arI rM_fresher kM_fresher 8 f_7319)]) hP hD rfl
                                        have pk_f_7351 : POk f_7351 f_7318 := POk.put hi0_n_7320 ef_7351 (Or.inr (Or.inr (Or.inr (Or.inl (by have q9 : ((6 : Int32).toNatClampNeg : Nat) = 6 := rfl; omega)))))
                                        have pl_f_7351 := pk_f_7351.lins
                                        have o1_f_7351 : (f_7351 1).toInt = (f_7317 1).toInt := put_at ef_7351 (by decide)
                                        have o2_f_7351 : (f_7351 2).toInt = (f_7317 2).toInt := put_at ef_7351 (by decide)
                                        have o7_f_7351 : (f_7351 7).toInt = (f_7317 7).toInt := put_at ef_7351 (by decide)
                                        have i6_f_7351 : (f_7351 6).toInt = x_7350.toInt := put_is ef_7351 rfl
                                        refine lv_aload_n hx hb dX7_court_229 rfl (lv_at hl 1 rfl) ?_
                                        refine va_get (D := (dC, dI)) (ci := 7) (v := .ref rM_fresh) (C := RX7) (T := TX7) (N := 48) hx hb hts inX7 hown hK hP 0 rfl rfl 16 (by decide) (hts _ wd_156) (fun _ h9 => h9) rfl dX7_court_230 ?_
                                        refine lv_iconst (v := 0) hx hb dX7_court_233 (by decide) ?_
                                        refine lv_aload_n hx hb dX7_court_234 rfl (lv_at hl 1 rfl) ?_
                                        refine va_get (D := (dC, dI)) (ci := 7) (v := .ref rM_r) (C := RX7) (T := TX7) (N := 48) hx hb hts inX7 hown hK hP 0 rfl rfl 15 (by decide) (hts _ wd_155) (fun _ h9 => h9) rfl dX7_court_235 ?_
                                        refine lv_iconst (v := 0) hx hb dX7_court_238 (by decide) ?_
                                        refine lv_sipush (v := 287) hx hb dX7_court_239 (by decide) ?_
                                        have hFc := va_free (wc := [(arI rM_fresh kM_fresh 287 f_7351), (arI rM_r kM_r 287 fM_r)]) hD hS hA [4, 3] rfl
                                        refine va_callv (va_runS (As := [.ref rM_fresh, .int 0, .ref rM_r, .int 0, .int 287]) (rest := []) ⟨hx, hb, hml, hown, hts⟩ (tX7_copy_287_287 l dC dI _ rM_fresh f_7351 kM_fresh rM_r fM_r kM_r 0 0 287 ⟨(om_b1de7dbe kc_0), (om_b1de7dbe kc_0), (om_03d58641 kc_287)⟩ (om_29114139 kc_0 kc_287) (om_29114139 kc_0 kc_287)) (va_cwS 5 hts (wd_S wd_475 wd_476 wd_5 (wd_c wd_477)) rfl rfl rfl ds_yX7_copy_5 ⟨Nat.le_of_ble_eq_true rfl, Nat.le_of_ble_eq_true rfl⟩) ⟨Pw.fb, fun U hU hW => Pw.to (hP.sub [4, 3] rfl) (hD.sub [4, 3] (by decide) rfl) (hK.sub [3, 2] rfl) hE hS hFc hU hW⟩ rfl rfl hl.1 rfl (lv_room (Nat.le_of_ble_eq_true rfl)) dX7_court_242 ⟨Nat.le_of_ble_eq_true rfl, Nat.le_of_ble_eq_true rfl⟩) hS (fun q _ h => hFc q h) hFc (fun u t H locs ht hvm hw hB hz1 hk1 hS => ?_)
                                        refine ex_1_1 hB (fun f_7352 e_f_7352_0 hB => ?_)
                                        obtain ⟨hP, hD, hK⟩ := Bw.go (ws' := [(oc7 oM x_7275 rM_tape 0 p0 z_7307 z_7308 z_7309 z_7310 z_7311 z_7312 z_7313 x_7276 rM_letters z_7314 iM_hasCourt rM_r rM_fresh rM_told rM_read rM_st rM_undone rM_kept iM_undos iM_images rM_fresher z_7315 iM_scale iM_night rM_heardRow rM_cutRow iM_breaths iM_cutMany iM_allBreaths rM_trial rM_words iM_fewestBreaths iM_orderMany iM_orderSum iM_leastOrder rM_often iM_setMany iM_someOf iM_allOf iM_allWeight iM_enoughWeight iM_worthSum iM_firstRest iM_leastDrawn), (arI rM_tape kM_tape 900 fM_tape), (arI rM_letters kM_letters 8 f_7316), (arI rM_told kM_told 90 fM_told), (arI rM_read kM_read 90 f_7318), (arI rM_st kM_st 90 fM_st), (arI rM_undone kM_undone 1440 fM_undone), (arI rM_kept kM_kept 270 fM_kept), (arI rM_fresher kM_fresher 8 f_7319), (arI rM_fresh kM_fresh 287 f_7351), (arI rM_r kM_r 287 f_7352)]) (tys' := [(kM_tape, .int), (kM_letters, .int), (kM_told, .int), (kM_read, .int), (kM_st, .int), (kM_undone, .int), (kM_kept, .int), (kM_fresher, .int), (kM_fresh, .int), (kM_r, .int)]) hB rfl ht hvm hP hD hK [4, 3] [0, 1, 2, 5, 6, 7, 8, 9, 10] rfl (by decide) (by decide) [0, 1, 4, 5, 6, 7, 8, 9] hk1 hFc rfl rfl rfl
                                        clear hz1 hk1 hvm ht hB
                                        have cr9 := cp_all (m := 287) e_f_7352_0 rfl
                                        have r_R : ROk f_7352 := ROk.congr pk_f_7351.1.toR cr9
                                        have rq9 : RowOk f_7352 f_7318 := RowOk.fr pk_f_7351.2.1 (cr9 1 (by decide)) (fun k hk => cr9 _ (by omega))
                                        have o1_f_7352 : (f_7352 1).toInt = (f_7351 1).toInt := by rw [cr9 1 (by decide)]
                                        have o6_f_7352 : (f_7352 6).toInt = (f_7351 6).toInt := by rw [cr9 6 (by decide)]
                                        have s_nodes := r_R.nodes
                                        have hG := hG.trans (lt_eq (CopyOk.fn e_f_7352_0).symm)
                                        refine lv_aload_n hx hb dX7_court_245 rfl (lv_at hl 1 rfl) ?_
                                        refine va_get (D := (dC, dI)) (ci := 7) (v := .ref rM_read) (C := RX7) (T := TX7) (N := 48) hx hb hts inX7 hown hK hP 0 rfl rfl 18 (by decide) (hts _ wd_158) (fun _ h9 => h9) rfl dX7_court_246 ?_
                                        refine lv_iconst (v := 0) hx hb dX7_court_249 (by decide) ?_
                                        refine lv_aload_n hx hb dX7_court_250 rfl (lv_at hl 1 rfl) ?_
                                        refine va_get (D := (dC, dI)) (ci := 7) (v := .ref rM_told) (C := RX7) (T := TX7) (N := 48) hx hb hts inX7 hown hK hP 0 rfl rfl 17 (by decide) (hts _ wd_157) (fun _ h9 => h9) rfl dX7_court_251 ?_
                                        refine lv_iconst (v := 0) hx hb dX7_court_254 (by decide) ?_
                                        refine lv_bipush (v := 90) hx hb dX7_court_255 (by decide) ?_
                                        have hFc := va_free (wc := [(arI rM_read kM_read 90 f_7318), (arI rM_told kM_told 90 fM_told)]) hD hS hA [4, 3] rfl
                                        refine va_callv (va_runS (As := [.ref rM_read, .int 0, .ref rM_told, .int 0, .int 90]) (rest := []) ⟨hx, hb, hml, hown, hts⟩ (tX7_copy_90_90 l dC dI _ rM_read f_7318 kM_read rM_told fM_told kM_told 0 0 90 ⟨(om_b1de7dbe kc_0), (om_b1de7dbe kc_0), (om_34f60646 kc_90)⟩ (om_3b9d1022 kc_0 kc_90) (om_3b9d1022 kc_0 kc_90)) (va_cwS 5 hts (wd_S wd_475 wd_476 wd_5 (wd_c wd_477)) rfl rfl rfl ds_yX7_copy_5 ⟨Nat.le_of_ble_eq_true rfl, Nat.le_of_ble_eq_true rfl⟩) ⟨Pw.fb, fun U hU hW => Pw.to (hP.sub [4, 3] rfl) (hD.sub [4, 3] (by decide) rfl) (hK.sub [3, 2] rfl) hE hS hFc hU hW⟩ rfl rfl hl.1 rfl (lv_room (Nat.le_of_ble_eq_true rfl)) dX7_court_257 ⟨Nat.le_of_ble_eq_true rfl, Nat.le_of_ble_eq_true rfl⟩) hS (fun q _ h => hFc q h) hFc (fun u t H locs ht hvm hw hB hz1 hk1 hS => ?_)
                                        refine ex_1_1 hB (fun f_7353 e_f_7353_0 hB => ?_)
                                        obtain ⟨hP, hD, hK⟩ := Bw.go (ws' := [(oc7 oM x_7275 rM_tape 0 p0 z_7307 z_7308 z_7309 z_7310 z_7311 z_7312 z_7313 x_7276 rM_letters z_7314 iM_hasCourt rM_r rM_fresh rM_told rM_read rM_st rM_undone rM_kept iM_undos iM_images rM_fresher z_7315 iM_scale iM_night rM_heardRow rM_cutRow iM_breaths iM_cutMany iM_allBreaths rM_trial rM_words iM_fewestBreaths iM_orderMany iM_orderSum iM_leastOrder rM_often iM_setMany iM_someOf iM_allOf iM_allWeight iM_enoughWeight iM_worthSum iM_firstRest iM_leastDrawn), (arI rM_tape kM_tape 900 fM_tape), (arI rM_letters kM_letters 8 f_7316), (arI rM_st kM_st 90 fM_st), (arI rM_undone kM_undone 1440 fM_undone), (arI rM_kept kM_kept 270 fM_kept), (arI rM_fresher kM_fresher 8 f_7319), (arI rM_fresh kM_fresh 287 f_7351), (arI rM_r kM_r 287 f_7352), (arI rM_read kM_read 90 f_7318), (arI rM_told kM_told 90 f_7353)]) (tys' := [(kM_tape, .int), (kM_letters, .int), (kM_st, .int), (kM_undone, .int), (kM_kept, .int), (kM_fresher, .int), (kM_fresh, .int), (kM_r, .int), (kM_read, .int), (kM_told, .int)]) hB rfl ht hvm hP hD hK [4, 3] [0, 1, 2, 5, 6, 7, 8, 9, 10] rfl (by decide) (by decide) [0, 1, 4, 5, 6, 7, 8, 9] hk1 hFc rfl rfl rfl
                                        clear hz1 hk1 hvm ht hB
                                        have r_f_7353 : RowOk f_7352 f_7353 := RowOk.copy r_R rq9 e_f_7353_0
                                        have hG := hG.trans (lt_eq (CopyOk.fn e_f_7353_0).symm)
                                        refine lv_aload_n hx hb dX7_court_260 rfl (lv_at hl 1 rfl) ?_
                                        refine va_get (D := (dC, dI)) (ci := 7) (v := .ref rM_read) (C := RX7) (T := TX7) (N := 48) hx hb hts inX7 hown hK hP 0 rfl rfl 18 (by decide) (hts _ wd_158) (fun _ h9 => h9) rfl dX7_court_261 ?_
                                        refine lv_iconst (v := 0) hx hb dX7_court_264 (by decide) ?_
                                        refine lv_aload_n hx hb dX7_court_265 rfl (lv_at hl 1 rfl) ?_
                                        refine va_get (D := (dC, dI)) (ci := 7) (v := .ref rM_st) (C := RX7) (T := TX7) (N := 48) hx hb hts inX7 hown hK hP 0 rfl rfl 19 (by decide) (hts _ wd_159) (fun _ h9 => h9) rfl dX7_court_266 ?_
                                        refine lv_iconst (v := 0) hx hb dX7_court_269 (by decide) ?_
                                        refine lv_bipush (v := 90) hx hb dX7_court_270 (by decide) ?_
                                        have hFc := va_free (wc := [(arI rM_read kM_read 90 f_7318), (arI rM_st kM_st 90 fM_st)]) hD hS hA [9, 3] rfl
                                        refine va_callv (va_runS (As := [.ref rM_read, .int 0, .ref rM_st, .int 0, .int 90]) (rest := []) ⟨hx, hb, hml, hown, hts⟩ (tX7_copy_90_90 l dC dI _ rM_read f_7318 kM_read rM_st fM_st kM_st 0 0 90 ⟨(om_b1de7dbe kc_0), (om_b1de7dbe kc_0), (om_34f60646 kc_90)⟩ (om_3b9d1022 kc_0 kc_90) (om_3b9d1022 kc_0 kc_90)) (va_cwS 5 hts (wd_S wd_475 wd_476 wd_5 (wd_c wd_477)) rfl rfl rfl ds_yX7_copy_5 ⟨Nat.le_of_ble_eq_true rfl, Nat.le_of_ble_eq_true rfl⟩) ⟨Pw.fb, fun U hU hW => Pw.to (hP.sub [9, 3] rfl) (hD.sub [9, 3] (by decide) rfl) (hK.sub [8, 2] rfl) hE hS hFc hU hW⟩ rfl rfl hl.1 rfl (lv_room (Nat.le_of_ble_eq_true rfl)) dX7_court_272 ⟨Nat.le_of_ble_eq_true rfl, Nat.le_of_ble_eq_true rfl⟩) hS (fun q _ h => hFc q h) hFc (fun u t H locs ht hvm hw hB hz1 hk1 hS => ?_)
                                        refine ex_1_1 hB (fun f_7354 e_f_7354_0 hB => ?_)
                                        obtain ⟨hP, hD, hK⟩ := Bw.go (ws' := [(oc7 oM x_7275 rM_tape 0 p0 z_7307 z_7308 z_7309 z_7310 z_7311 z_7312 z_7313 x_7276 rM_letters z_7314 iM_hasCourt rM_r rM_fresh rM_told rM_read rM_st rM_undone rM_kept iM_undos iM_images rM_fresher z_7315 iM_scale iM_night rM_heardRow rM_cutRow iM_breaths iM_cutMany iM_allBreaths rM_trial rM_words iM_fewestBreaths iM_orderMany iM_orderSum iM_leastOrder rM_often iM_setMany iM_someOf iM_allOf iM_allWeight iM_enoughWeight iM_worthSum iM_firstRest iM_leastDrawn), (arI rM_tape kM_tape 900 fM_tape), (arI rM_letters kM_letters 8 f_7316), (arI rM_undone kM_undone 1440 fM_undone), (arI rM_kept kM_kept 270 fM_kept), (arI rM_fresher kM_fresher 8 f_7319), (arI rM_fresh kM_fresh 287 f_7351), (arI rM_r kM_r 287 f_7352), (arI rM_told kM_told 90 f_7353), (arI rM_read kM_read 90 f_7318), (arI rM_st kM_st 90 f_7354)]) (tys' := [(kM_tape, .int), (kM_letters, .int), (kM_undone, .int), (kM_kept, .int), (kM_fresher, .int), (kM_fresh, .int), (kM_r, .int), (kM_told, .int), (kM_read, .int), (kM_st, .int)]) hB rfl ht hvm hP hD hK [9, 3] [0, 1, 2, 4, 5, 6, 7, 8, 10] rfl (by decide) (by decide) [0, 1, 3, 4, 5, 6, 7, 9] hk1 hFc rfl rfl rfl
                                        clear hz1 hk1 hvm ht hB
                                        have r_f_7354 : RowOk f_7352 f_7354 := RowOk.copy r_R rq9 e_f_7354_0
                                        have w_f_7354 : WorOk f_7354 := WorOk.congr pk_f_7351.2.2 (fun j _ h2 => cp_all (m := 90) e_f_7354_0 rfl j h2)
                                        have hG := hG.trans (lt_eq (CopyOk.fn e_f_7354_0).symm)
                                        refine lv_aload_n hx hb dX7_court_275 rfl (lv_at hl 1 rfl) ?_
                                        have hMs := ml_of hD [true, false, false, false, false, false, false, true, false, false, false] (wc := [(oc7 oM x_7275 rM_tape 0 p0 z_7307 z_7308 z_7309 z_7310 z_7311 z_7312 z_7313 x_7276 rM_letters z_7314 iM_hasCourt rM_r rM_fresh rM_told rM_read rM_st rM_undone rM_kept iM_undos iM_images rM_fresher z_7315 iM_scale iM_night rM_heardRow rM_cutRow iM_breaths iM_cutMany iM_allBreaths rM_trial rM_words iM_fewestBreaths iM_orderMany iM_orderSum iM_leastOrder rM_often iM_setMany iM_someOf iM_allOf iM_allWeight iM_enoughWeight iM_worthSum iM_firstRest iM_leastDrawn), (arI rM_r kM_r 287 f_7352)]) rfl
                                        have hFc := va_freeM hD hS hA _ hMs
                                        refine va_callv (va_runV (As := []) (rest := []) ⟨hx, hb, hml, hown, hts⟩ (tX7_layScale l dC dI _ oM x_7275 rM_tape 0 p0 z_7307 z_7308 z_7309 z_7310 z_7311 z_7312 z_7313 x_7276 rM_letters z_7314 iM_hasCourt rM_r f_7352 kM_r rM_fresh rM_told rM_read rM_st rM_undone rM_kept iM_undos iM_images rM_fresher z_7315 iM_scale iM_night rM_heardRow rM_cutRow iM_breaths iM_cutMany iM_allBreaths rM_trial rM_words iM_fewestBreaths iM_orderMany iM_orderSum iM_leastOrder rM_often iM_setMany iM_someOf iM_allOf iM_allWeight iM_enoughWeight iM_worthSum iM_firstRest iM_leastDrawn (by first | decide | omega) (by first | exact ⟨by omega, by omega⟩ | omega | decide) b_z_7308 b_z_7314 b_iM_hasCourt b_iM_undos b_iM_images b_iM_scale b_iM_breaths b_iM_cutMany (by assumption) (by first | assumption | omega)) (cwV 0 hts (wd_V wd_502 wd_503 wd_504 wd_5 (wd_c wd_505)) rfl rfl rfl dv_yX7_layScale_0 ⟨Nat.le_of_ble_eq_true rfl, Nat.le_of_ble_eq_true rfl⟩) ⟨Pw.fb, recvX7 hK hP (q0 := 0) rfl, fun U hU hW => Pw.to (hP.ms _ hMs) (hD.ms _ hMs) (hK.ms [false, false, false, false, false, false, true, false, false, false] rfl) hE hS hFc hU hW⟩ rfl rfl hl.1 rfl (lv_room (Nat.le_of_ble_eq_true rfl)) dX7_court_276 ⟨Nat.le_of_ble_eq_true rfl, Nat.le_of_ble_eq_true rfl⟩) hS (fun q _ h => hFc q h) hFc (fun u t H locs ht hvm hw hB hz1 hk1 hS => ?_)
                                        refine ex_1_2 hB (fun x_7355 b_x_7355 e_x_7355_0 hB => ?_)
                                        obtain ⟨hP, hD⟩ := Bw.goN (ws' := [(oc7 oM x_7275 rM_tape 0 p0 z_7307 z_7308 z_7309 z_7310 z_7311 z_7312 z_7313 x_7276 rM_letters z_7314 iM_hasCourt rM_r rM_fresh rM_told rM_read rM_st rM_undone rM_kept iM_undos iM_images rM_fresher z_7315 x_7355 iM_night rM_heardRow rM_cutRow iM_breaths iM_cutMany iM_allBreaths rM_trial rM_words iM_fewestBreaths iM_orderMany iM_orderSum iM_leastOrder rM_often iM_setMany iM_someOf iM_allOf iM_allWeight iM_enoughWeight iM_worthSum iM_firstRest iM_leastDrawn), (arI rM_tape kM_tape 900 fM_tape), (arI rM_letters kM_letters 8 f_7316), (arI rM_undone kM_undone 1440 fM_undone), (arI rM_kept kM_kept 270 fM_kept), (arI rM_fresher kM_fresher 8 f_7319), (arI rM_fresh kM_fresh 287 f_7351), (arI rM_r kM_r 287 f_7352), (arI rM_told kM_told 90 f_7353), (arI rM_read kM_read 90 f_7318), (arI rM_st kM_st 90 f_7354)]) hB rfl ht hP hD _ hMs hk1 hFc rfl
                                        clear hz1 hk1 hvm ht hB hMs
                                        have hG := hG.trans (lt_eq e_x_7355_0.symm)
                                        refine lv_aload_n hx hb dX7_court_279 rfl (lv_at hl 1 rfl) ?_
                                        refine lv_iconst (v := 1) hx hb dX7_court_280 (by decide) ?_
                                        refine va_put (D := (dC, dI)) (ci := 7) (v := .int 1) (ty := .boolean) (C := RX7) (T := TX7) (N := 48) hx hb hts inX7 tyX7 tyX7_ok nmX7 hown hK hP hD hS 0 rfl rfl 14 (by decide) (hts _ wd_385) (fun _ h9 => h9) rfl (by decide +kernel) rfl rfl (Nat.le_of_ble_eq_true rfl) dX7_court_281 (fun H locs hP hD hS => ?_)
                                        obtain ⟨hP, hD⟩ := wl2 (ws' := [(oc7 oM x_7275 rM_tape 0 p0 z_7307 z_7308 z_7309 z_7310 z_7311 z_7312 z_7313 x_7276 rM_letters z_7314 1 rM_r rM_fresh rM_told rM_read rM_st rM_undone rM_kept iM_undos iM_images rM_fresher z_7315 x_7355 iM_night rM_heardRow rM_cutRow iM_breaths iM_cutMany iM_allBreaths rM_trial rM_words iM_fewestBreaths iM_orderMany iM_orderSum iM_leastOrder rM_often iM_setMany iM_someOf iM_allOf iM_allWeight iM_enoughWeight iM_worthSum iM_firstRest iM_leastDrawn), (arI rM_tape kM_tape 900 fM_tape), (arI rM_letters kM_letters 8 f_7316), (arI rM_undone kM_undone 1440 fM_undone), (arI rM_kept kM_kept 270 fM_kept), (arI rM_fresher kM_fresher 8 f_7319), (arI rM_fresh kM_fresh 287 f_7351), (arI rM_r kM_r 287 f_7352), (arI rM_told kM_told 90 f_7353), (arI rM_read kM_read 90 f_7318), (arI rM_st kM_st 90 f_7354)]) hP hD rfl
                                        refine lv_aload_n hx hb dX7_court_284 rfl (lv_at hl 1 rfl) ?_
                                        refine lv_iconst (v := 0) hx hb dX7_court_285 (by decide) ?_
                                        refine va_put (D := (dC, dI)) (ci := 7) (v := .int 0) (ty := .int) (C := RX7) (T := TX7) (N := 48) hx hb hts inX7 tyX7 tyX7_ok nmX7 hown hK hP hD hS 0 rfl rfl 22 (by decide) (hts _ wd_386) (fun _ h9 => h9) rfl (by decide +kernel) rfl rfl (Nat.le_of_ble_eq_true rfl) dX7_court_286 (fun H locs hP hD hS => ?_)
                                        obtain ⟨hP, hD⟩ := wl2 (ws' := [(oc7 oM x_7275 rM_tape 0 p0 z_7307 z_7308 z_7309 z_7310 z_7311 z_7312 z_7313 x_7276 rM_letters z_7314 1 rM_r rM_fresh rM_told rM_read rM_st rM_undone rM_kept 0 iM_images rM_fresher z_7315 x_7355 iM_night rM_heardRow rM_cutRow iM_breaths iM_cutMany iM_allBreaths rM_trial rM_words iM_fewestBreaths iM_orderMany iM_orderSum iM_leastOrder rM_often iM_setMany iM_someOf iM_allOf iM_allWeight iM_enoughWeight iM_worthSum iM_firstRest iM_leastDrawn), (arI rM_tape kM_tape 900 fM_tape), (arI rM_letters kM_letters 8 f_7316), (arI rM_undone kM_undone 1440 fM_undone), (arI rM_kept kM_kept 270 fM_kept), (arI rM_fresher kM_fresher 8 f_7319), (arI rM_fresh kM_fresh 287 f_7351), (arI rM_r kM_r 287 f_7352), (arI rM_told kM_told 90 f_7353), (arI rM_read kM_read 90 f_7318), (arI rM_st kM_st 90 f_7354)]) hP hD rfl
                                        refine lv_aload_n hx hb dX7_court_289 rfl (lv_at hl 1 rfl) ?_
                                        refine lv_iconst (v := 0) hx hb dX7_court_290 (by decide) ?_
                                        refine va_put (D := (dC, dI)) (ci := 7) (v := .int 0) (ty := .int) (C := RX7) (T := TX7) (N := 48) hx hb hts inX7 tyX7 tyX7_ok nmX7 hown hK hP hD hS 0 rfl rfl 23 (by decide) (hts _ wd_387) (fun _ h9 => h9) rfl (by decide +kernel) rfl rfl (Nat.le_of_ble_eq_true rfl) dX7_court_291 (fun H locs hP hD hS => ?_)
                                        obtain ⟨hP, hD⟩ := wl2 (ws' := [(oc7 oM x_7275 rM_tape 0 p0 z_7307 z_7308 z_7309 z_7310 z_7311 z_7312 z_7313 x_7276 rM_letters z_7314 1 rM_r rM_fresh rM_told rM_read rM_st rM_undone rM_kept 0 0 rM_fresher z_7315 x_7355 iM_night rM_heardRow rM_cutRow iM_breaths iM_cutMany iM_allBreaths rM_trial rM_words iM_fewestBreaths iM_orderMany iM_orderSum iM_leastOrder rM_often iM_setMany iM_someOf iM_allOf iM_allWeight iM_enoughWeight iM_worthSum iM_firstRest iM_leastDrawn), (arI rM_tape kM_tape 900 fM_tape), (arI rM_letters kM_letters 8 f_7316), (arI rM_undone kM_undone 1440 fM_undone), (arI rM_kept kM_kept 270 fM_kept), (arI rM_fresher kM_fresher 8 f_7319), (arI rM_fresh kM_fresh 287 f_7351), (arI rM_r kM_r 287 f_7352), (arI rM_told kM_told 90 f_7353), (arI rM_read kM_read 90 f_7318), (arI rM_st kM_st 90 f_7354)]) hP hD rfl
                                        refine lv_aload_n hx hb dX7_court_294 rfl (lv_at hl 1 rfl) ?_
                                        refine va_get (D := (dC, dI)) (ci := 7) (v := .ref rM_r) (C := RX7) (T := TX7) (N := 48) hx hb hts inX7 hown hK hP 0 rfl rfl 15 (by decide) (hts _ wd_155) (fun _ h9 => h9) rfl dX7_court_295 ?_
                                        refine lv_iconst (v := 1) hx hb dX7_court_298 (by decide) ?_
                                        refine va_iald hx hb hK hP 7 6 rfl rfl (by unfold vp_in; decide) dX7_court_299 ?_
                                        refine lv_topi (fun x_7356 ex_7356 => ?_)
                                        have hG := hG.trans (lt_eq ex_7356)
                                        have cx_7356 : (f_7352 1).toInt = x_7356.toInt := congrArg Int32.toInt (show f_7352 1 = x_7356 from ex_7356.symm)
                                        have sx_7356 := r_R.nodes
                                        exact wq_i hx hb hr (cI x_7356) ⟨⟨trivial, trivial⟩, (cI_of x_7356)⟩ (fun t ht hW => ⟨x_7275, 0, p0, z_7307, z_7308, z_7309, z_7310, z_7311, z_7312, z_7313, x_7276, z_7314, 1, 0, 0, z_7315, x_7355, f_7316, f_7352, f_7351, f_7353, f_7318, f_7354, f_7319, (by decide), ⟨by omega, by omega⟩, b_z_7308, b_z_7311, b_z_7314, (by decide), (by decide), (by decide), b_x_7355, (by have q0 := kc_0; have q1 := kc_1; first | assumption | omega), (by have q0 := kc_0; have q1 := kc_1; first | assumption | omega), (by have q0 := kc_0; have q1 := kc_1; first | assumption | omega), (by have q0 := kc_0; have q1 := kc_1; first | assumption | omega), (by have q0 := kc_0; have q1 := kc_1; first | assumption | omega), (HistOk.none (by have q := kc_0; omega)), (HistOk.none (by have q := kc_0; omega)), hi1_n_7320, (by have q0 := kc_0; have q1 := kc_1; first | assumption | omega), (cI_tup hG), Bw.to (hP.sub [0, 1, 2, 7, 6, 8, 9, 10, 3, 4, 5] rfl) (hD.sub [0, 1, 2, 7, 6, 8, 9, 10, 3, 4, 5] (by decide) rfl) (hK.sub [0, 1, 6, 5, 7, 8, 9, 2, 3, 4] rfl) ht hW⟩) hS dX7_court_300 hlocks
                                    · skip
                                      have hG := hG.trans (if_neg c_7341)
                                      have gc_7341 := ti_ne c_7341 rfl kc_0
                                      replace gc_7341 : z_7314.toInt + 1 ≤ 0 := om_f992525b gc_7341 gc_7321
                                      exact ((om_5185113d b_z_7314.1 gc_7341)).elim
                                  · skip
                                    have hG := hG.trans (if_pos c_7340)
                                    have gc_7340 := ti_eq c_7340 rfl kc_0
                                    refine lv_aload_n hx hb dX7_court_181 rfl (lv_at hl 1 rfl) ?_
                                    refine lv_bipush (v := 6) hx hb dX7_court_182 (by decide) ?_
                                    refine lv_aload_n hx hb dX7_court_184 rfl (lv_at hl 1 rfl) ?_
                                    refine va_get (D := (dC, dI)) (ci := 7) (v := .int z_7307) (C := RX7) (T := TX7) (N := 48) hx hb hts inX7 hown hK hP 0 rfl rfl 4 (by decide) (hts _ wd_384) (fun _ h9 => h9) rfl dX7_court_185 ?_
                                    have hMs := ml_of hD [true, false, false, false, false, false, false, false, false, false, false] (wc := [(oc7 oM x_7275 rM_tape 0 p0 z_7307 z_7308 z_7309 z_7310 z_7311 z_7312 z_7313 x_7276 rM_letters z_7314 iM_hasCourt rM_r rM_fresh rM_told rM_read rM_st rM_undone rM_kept iM_undos iM_images rM_fresher z_7315 iM_scale iM_night rM_heardRow rM_cutRow iM_breaths iM_cutMany iM_allBreaths rM_trial rM_words iM_fewestBreaths iM_orderMany iM_orderSum iM_leastOrder rM_often iM_setMany iM_someOf iM_allOf iM_allWeight iM_enoughWeight iM_worthSum iM_firstRest iM_leastDrawn)]) rfl
                                    have hFc := va_freeM hD hS hA _ hMs
                                    refine va_callv (va_runV (As := [.int 6, .int z_7307]) (rest := []) ⟨hx, hb, hml, hown, hts⟩ (tX7_wrong l dC dI _ oM x_7275 rM_tape 0 p0 z_7307 z_7308 z_7309 z_7310 z_7311 z_7312 z_7313 x_7276 rM_letters z_7314 iM_hasCourt rM_r rM_fresh rM_told rM_read rM_st rM_undone rM_kept iM_undos iM_images rM_fresher z_7315 iM_scale iM_night rM_heardRow rM_cutRow iM_breaths iM_cutMany iM_allBreaths rM_trial rM_words iM_fewestBreaths iM_orderMany iM_orderSum iM_leastOrder rM_often iM_setMany iM_someOf iM_allOf iM_allWeight iM_enoughWeight iM_worthSum iM_firstRest iM_leastDrawn 6 z_7307 (by first | decide | omega) (by first | exact ⟨by omega, by omega⟩ | omega | decide) b_z_7308 b_z_7311 b_z_7314 b_iM_hasCourt b_iM_undos b_iM_images b_iM_scale b_iM_breaths b_iM_cutMany hi1_n_7320) (cwV 2 hts (wd_V wd_430 wd_431 wd_432 wd_5 (wd_c wd_433)) rfl rfl rfl dv_yX7_wrong_2 ⟨Nat.le_of_ble_eq_true rfl, Nat.le_of_ble_eq_true rfl⟩) ⟨Pw.fb, recvX7 hK hP (q0 := 0) rfl, fun U hU hW => Pw.to (hP.ms _ hMs) (hD.ms _ hMs) (hK.ms [false, false, false, false, false, false, false, false, false, false] rfl) hE hS hFc hU hW⟩ rfl rfl hl.1 rfl (lv_room (Nat.le_of_ble_eq_true rfl)) dX7_court_188 ⟨Nat.le_of_ble_eq_true rfl, Nat.le_of_ble_eq_true rfl⟩) hS (fun q _ h => hFc q h) hFc (fun u t H locs ht hvm hw hB hz1 hk1 hS => ?_)
                                    refine ex_3_3 hB (fun x_7357 x_7358 x_7359 b_x_7359 e_x_7357_0 e_x_7357_1 hB => ?_)
                                    obtain ⟨hP, hD⟩ := Bw.goN (ws' := [(oc7 oM x_7275 rM_tape 0 p0 z_7307 z_7308 z_7309 z_7310 z_7311 x_7357 x_7358 x_7276 rM_letters x_7359 iM_hasCourt rM_r rM_fresh rM_told rM_read rM_st rM_undone rM_kept iM_undos iM_images rM_fresher z_7315 iM_scale iM_night rM_heardRow rM_cutRow iM_breaths iM_cutMany iM_allBreaths rM_trial rM_words iM_fewestBreaths iM_orderMany iM_orderSum iM_leastOrder rM_often iM_setMany iM_someOf iM_allOf iM_allWeight iM_enoughWeight iM_worthSum iM_firstRest iM_leastDrawn), (arI rM_tape kM_tape 900 fM_tape), (arI rM_letters kM_letters 8 f_7316), (arI rM_r kM_r 287 fM_r), (arI rM_fresh kM_fresh 287 f_7317), (arI rM_told kM_told 90 fM_told), (arI rM_read kM_read 90 f_7318), (arI rM_st kM_st 90 fM_st), (arI rM_undone kM_undone 1440 fM_undone), (arI rM_kept kM_kept 270 fM_kept), (arI rM_fresher kM_fresher 8 f_7319)]) hB rfl ht hP hD _ hMs hk1 hFc rfl
                                    clear hz1 hk1 hvm ht hB hMs
                                    have hG := hG.trans (un3_eq e_x_7357_1)
                                    refine lv_aload_n hx hb dX7_court_191 rfl (lv_at hl 1 rfl) ?_
                                    refine va_get (D := (dC, dI)) (ci := 7) (v := .int x_7359) (C := RX7) (T := TX7) (N := 48) hx hb hts inX7 hown hK hP 0 rfl rfl 13 (by decide) (hts _ wd_380) (fun _ h9 => h9) rfl dX7_court_192 ?_
                                    refine lv_if_eq (tgt := 204) hx hb dX7_court_195 (by decide) (fun c_7360 => ?_) (fun c_7360 => ?_)
                                    · skip
                                      have hG := hG.trans (if_pos c_7360)
                                      have gc_7360 := ti_eq c_7360 rfl kc_0
                                      exact ((om_b1155cdc e_x_7357_0 gc_7360)).elim
                                    · skip
                                      have hG := hG.trans (if_neg c_7360)
                                      have gc_7360 := ti_ne c_7360 rfl kc_0
                                      replace gc_7360 : (-1) * x_7359.toInt + 1 ≤ 0 := om_e3003f79 gc_7360 b_x_7359.1
                                      refine lv_aload_n hx hb dX7_court_198 rfl (lv_at hl 1 rfl) ?_
                                      refine lv_iconst (v := 4) hx hb dX7_court_199 (by decide) ?_
                                      have hMs := ml_of hD [true, false, false, false, false, false, false, false, false, false, false] (wc := [(oc7 oM x_7275 rM_tape 0 p0 z_7307 z_7308 z_7309 z_7310 z_7311 x_7357 x_7358 x_7276 rM_letters x_7359 iM_hasCourt rM_r rM_fresh rM_told rM_read rM_st rM_undone rM_kept iM_undos iM_images rM_fresher z_7315 iM_scale iM_night rM_heardRow rM_cutRow iM_breaths iM_cutMany iM_allBreaths rM_trial rM_words iM_fewestBreaths iM_orderMany iM_orderSum iM_leastOrder rM_often iM_setMany iM_someOf iM_allOf iM_allWeight iM_enoughWeight iM_worthSum iM_firstRest iM_leastDrawn)]) rfl
                                      have hFc := va_freeM hD hS hA _ hMs
                                      refine va_calli (va_runV (As := [.int 4]) (rest := []) ⟨hx, hb, hml, hown, hts⟩ (tX7_no l dC dI _ oM x_7275 rM_tape 0 p0 z_7307 z_7308 z_7309 z_7310 z_7311 x_7357 x_7358 x_7276 rM_letters x_7359 iM_hasCourt rM_r rM_fresh rM_told rM_read rM_st rM_undone rM_kept iM_undos iM_images rM_fresher z_7315 iM_scale iM_night rM_heardRow rM_cutRow iM_breaths iM_cutMany iM_allBreaths rM_trial rM_words iM_fewestBreaths iM_orderMany iM_orderSum iM_leastOrder rM_often iM_setMany iM_someOf iM_allOf iM_allWeight iM_enoughWeight iM_worthSum iM_firstRest iM_leastDrawn 4 (by first | decide | omega) (by first | exact ⟨by omega, by omega⟩ | omega | decide) b_z_7308 b_x_7359 b_iM_hasCourt b_iM_undos b_iM_images b_iM_scale b_iM_breaths b_iM_cutMany) (cwV 1 hts (wd_V wd_396 wd_397 wd_398 wd_5 (wd_c wd_399)) rfl rfl rfl dv_yX7_no_1 ⟨Nat.le_of_ble_eq_true rfl, Nat.le_of_ble_eq_true rfl⟩) ⟨Pw.fb, recvX7 hK hP (q0 := 0) rfl, fun U hU hW => Pw.to (hP.ms _ hMs) (hD.ms _ hMs) (hK.ms [false, false, false, false, false, false, false, false, false, false] rfl) hE hS hFc hU hW⟩ rfl rfl hl.1 rfl (lv_room (Nat.le_of_ble_eq_true rfl)) dX7_court_200 ⟨Nat.le_of_ble_eq_true rfl, Nat.le_of_ble_eq_true rfl⟩) hS (fun q _ h => hFc q h) hFc (fun r u t H locs ht hvm hw hB hz1 hk1 hS => ?_)
                                      have hru9 := hw.2
                                      have hw := hw.1
                                      refine ex_1_1 hB (fun x_7361 e_x_7361_0 hB => ?_)
                                      obtain ⟨hP, hD⟩ := Bw.goN (ws' := [(oc7 oM x_7275 rM_tape 0 p0 z_7307 z_7308 z_7309 z_7310 z_7311 x_7357 x_7358 x_7361 rM_letters x_7359 iM_hasCourt rM_r rM_fresh rM_told rM_read rM_st rM_undone rM_kept iM_undos iM_images rM_fresher z_7315 iM_scale iM_night rM_heardRow rM_cutRow iM_breaths iM_cutMany iM_allBreaths rM_trial rM_words iM_fewestBreaths iM_orderMany iM_orderSum iM_leastOrder rM_often iM_setMany iM_someOf iM_allOf iM_allWeight iM_enoughWeight iM_worthSum iM_firstRest iM_leastDrawn), (arI rM_tape kM_tape 900 fM_tape), (arI rM_letters kM_letters 8 f_7316), (arI rM_r kM_r 287 fM_r), (arI rM_fresh kM_fresh 287 f_7317), (arI rM_told kM_told 90 fM_told), (arI rM_read kM_read 90 f_7318), (arI rM_st kM_st 90 fM_st), (arI rM_undone kM_undone 1440 fM_undone), (arI rM_kept kM_kept 270 fM_kept), (arI rM_fresher kM_fresher 8 f_7319)]) hB rfl ht hP hD _ hMs hk1 hFc rfl
                                      clear hz1 hk1 hvm ht hB hMs
                                      rw [← hru9] at e_x_7361_0
                                      obtain ⟨x_7362, rfl⟩ : ∃ z, z = r := ⟨_, rfl⟩
                                      have hG := hG.trans (un2_eq e_x_7361_0)
                                      exact wq_i hx hb hr (cI x_7362) ⟨⟨trivial, trivial⟩, (cI_of x_7362)⟩ (fun t ht hW => ⟨x_7275, 0, p0, z_7307, z_7308, z_7309, z_7310, z_7311, x_7357, x_7358, x_7361, x_7359, iM_hasCourt, iM_undos, iM_images, z_7315, iM_scale, f_7316, fM_r, f_7317, fM_told, f_7318, fM_st, f_7319, (by decide), ⟨by omega, by omega⟩, b_z_7308, b_z_7311, b_x_7359, ⟨b_iM_hasCourt.1, b_iM_hasCourt.2⟩, ⟨b_iM_undos.1, b_iM_undos.2⟩, ⟨b_iM_images.1, b_iM_images.2⟩, ⟨b_iM_scale.1, b_iM_scale.2⟩, (by have q0 := kc_0; have q1 := kc_1; first | assumption | omega), (by have q0 := kc_0; have q1 := kc_1; first | assumption | omega), (by have q0 := kc_0; have q1 := kc_1; first | assumption | omega), (by have q0 := kc_0; have q1 := kc_1; first | assumption | omega), (by have q0 := kc_0; have q1 := kc_1; first | assumption | omega), (by have q0 := kc_0; have q1 := kc_1; first | assumption | omega), (by have q0 := kc_0; have q1 := kc_1; first | assumption | omega), hi1_n_7320, (by have q0 := kc_0; have q1 := kc_1; first | assumption | omega), (cI_tup hG), Bw.to hP hD hK ht hW⟩) hS dX7_court_203 hlocks
                            · skip
                              have hG := hG.trans (if_neg c_7329)
                              have gc_7329 := ti_ne c_7329 rfl kc_0
                              clear gc_7329
                              refine lv_aload_n hx hb dX7_court_147 rfl (lv_at hl 1 rfl) ?_
                              refine lv_iconst (v := 1) hx hb dX7_court_148 (by decide) ?_
                              refine lv_aload_n hx hb dX7_court_149 rfl (lv_at hl 1 rfl) ?_
                              refine va_get (D := (dC, dI)) (ci := 7) (v := .int z_7307) (C := RX7) (T := TX7) (N := 48) hx hb hts inX7 hown hK hP 0 rfl rfl 4 (by decide) (hts _ wd_384) (fun _ h9 => h9) rfl dX7_court_150 ?_
                              have hMs := ml_of hD [true, false, false, false, false, false, false, false, false, false, false] (wc := [(oc7 oM x_7275 rM_tape 0 p0 z_7307 z_7308 z_7309 z_7310 z_7311 z_7312 z_7313 x_7276 rM_letters z_7314 iM_hasCourt rM_r rM_fresh rM_told rM_read rM_st rM_undone rM_kept iM_undos iM_images rM_fresher z_7315 iM_scale iM_night rM_heardRow rM_cutRow iM_breaths iM_cutMany iM_allBreaths rM_trial rM_words iM_fewestBreaths iM_orderMany iM_orderSum iM_leastOrder rM_often iM_setMany iM_someOf iM_allOf iM_allWeight iM_enoughWeight iM_worthSum iM_firstRest iM_leastDrawn)]) rfl
                              have hFc := va_freeM hD hS hA _ hMs
                              refine va_callv (va_runV (As := [.int 1, .int z_7307]) (rest := []) ⟨hx, hb, hml, hown, hts⟩ (tX7_wrong l dC dI _ oM x_7275 rM_tape 0 p0 z_7307 z_7308 z_7309 z_7310 z_7311 z_7312 z_7313 x_7276 rM_letters z_7314 iM_hasCourt rM_r rM_fresh rM_told rM_read rM_st rM_undone rM_kept iM_undos iM_images rM_fresher z_7315 iM_scale iM_night rM_heardRow rM_cutRow iM_breaths iM_cutMany iM_allBreaths rM_trial rM_words iM_fewestBreaths iM_orderMany iM_orderSum iM_leastOrder rM_often iM_setMany iM_someOf iM_allOf iM_allWeight iM_enoughWeight iM_worthSum iM_firstRest iM_leastDrawn 1 z_7307 (by first | decide | omega) (by first | exact ⟨by omega, by omega⟩ | omega | decide) b_z_7308 b_z_7311 b_z_7314 b_iM_hasCourt b_iM_undos b_iM_images b_iM_scale b_iM_breaths b_iM_cutMany hi1_n_7320) (cwV 2 hts (wd_V wd_430 wd_431 wd_432 wd_5 (wd_c wd_433)) rfl rfl rfl dv_yX7_wrong_2 ⟨Nat.le_of_ble_eq_true rfl, Nat.le_of_ble_eq_true rfl⟩) ⟨Pw.fb, recvX7 hK hP (q0 := 0) rfl, fun U hU hW => Pw.to (hP.ms _ hMs) (hD.ms _ hMs) (hK.ms [false, false, false, false, false, false, false, false, false, false] rfl) hE hS hFc hU hW⟩ rfl rfl hl.1 rfl (lv_room (Nat.le_of_ble_eq_true rfl)) dX7_court_153 ⟨Nat.le_of_ble_eq_true rfl, Nat.le_of_ble_eq_true rfl⟩) hS (fun q _ h => hFc q h) hFc (fun u t H locs ht hvm hw hB hz1 hk1 hS => ?_)
                              refine ex_3_3 hB (fun x_7363 x_7364 x_7365 b_x_7365 e_x_7363_0 e_x_7363_1 hB => ?_)
                              obtain ⟨hP, hD⟩ := Bw.goN (ws' := [(oc7 oM x_7275 rM_tape 0 p0 z_7307 z_7308 z_7309 z_7310 z_7311 x_7363 x_7364 x_7276 rM_letters x_7365 iM_hasCourt rM_r rM_fresh rM_told rM_read rM_st rM_undone rM_kept iM_undos iM_images rM_fresher z_7315 iM_scale iM_night rM_heardRow rM_cutRow iM_breaths iM_cutMany iM_allBreaths rM_trial rM_words iM_fewestBreaths iM_orderMany iM_orderSum iM_leastOrder rM_often iM_setMany iM_someOf iM_allOf iM_allWeight iM_enoughWeight iM_worthSum iM_firstRest iM_leastDrawn), (arI rM_tape kM_tape 900 fM_tape), (arI rM_letters kM_letters 8 f_7316), (arI rM_r kM_r 287 fM_r), (arI rM_fresh kM_fresh 287 f_7317), (arI rM_told kM_told 90 fM_told), (arI rM_read kM_read 90 f_7318), (arI rM_st kM_st 90 fM_st), (arI rM_undone kM_undone 1440 fM_undone), (arI rM_kept kM_kept 270 fM_kept), (arI rM_fresher kM_fresher 8 f_7319)]) hB rfl ht hP hD _ hMs hk1 hFc rfl
                              clear hz1 hk1 hvm ht hB hMs
                              have hG := hG.trans (un3_eq e_x_7363_1)
                              refine lv_aload_n hx hb dX7_court_156 rfl (lv_at hl 1 rfl) ?_
                              refine va_get (D := (dC, dI)) (ci := 7) (v := .int x_7365) (C := RX7) (T := TX7) (N := 48) hx hb hts inX7 hown hK hP 0 rfl rfl 13 (by decide) (hts _ wd_380) (fun _ h9 => h9) rfl dX7_court_157 ?_
                              refine lv_if_ne (tgt := 191) hx hb dX7_court_160 (by decide) (fun c_7366 => ?_) (fun c_7366 => ?_)
                              · skip
                                have hG := hG.trans (if_neg c_7366)
                                have gc_7366 := ti_ne c_7366 rfl kc_0
                                replace gc_7366 : (-1) * x_7365.toInt + 1 ≤ 0 := om_e3003f79 gc_7366 b_x_7365.1
                                refine lv_aload_n hx hb dX7_court_191 rfl (lv_at hl 1 rfl) ?_
                                refine va_get (D := (dC, dI)) (ci := 7) (v := .int x_7365) (C := RX7) (T := TX7) (N := 48) hx hb hts inX7 hown hK hP 0 rfl rfl 13 (by decide) (hts _ wd_380) (fun _ h9 => h9) rfl dX7_court_192 ?_
                                refine lv_if_eq (tgt := 204) hx hb dX7_court_195 (by decide) (fun c_7367 => ?_) (fun c_7367 => ?_)
                                · skip
                                  have hG := hG.trans (if_pos c_7367)
                                  have gc_7367 := ti_eq c_7367 rfl kc_0
                                  exact ((om_b1155cdc e_x_7363_0 gc_7367)).elim
                                · skip
                                  have hG := hG.trans (if_neg c_7367)
                                  have gc_7367 := ti_ne c_7367 rfl kc_0
                                  replace gc_7367 : (-1) * x_7365.toInt + 1 ≤ 0 := om_e3003f79 gc_7367 b_x_7365.1
                                  refine lv_aload_n hx hb dX7_court_198 rfl (lv_at hl 1 rfl) ?_
                                  refine lv_iconst (v := 4) hx hb dX7_court_199 (by decide) ?_
                                  have hMs := ml_of hD [true, false, false, false, false, false, false, false, false, false, false] (wc := [(oc7 oM x_7275 rM_tape 0 p0 z_7307 z_7308 z_7309 z_7310 z_7311 x_7363 x_7364 x_7276 rM_letters x_7365 iM_hasCourt rM_r rM_fresh rM_told rM_read rM_st rM_undone rM_kept iM_undos iM_images rM_fresher z_7315 iM_scale iM_night rM_heardRow rM_cutRow iM_breaths iM_cutMany iM_allBreaths rM_trial rM_words iM_fewestBreaths iM_orderMany iM_orderSum iM_leastOrder rM_often iM_setMany iM_someOf iM_allOf iM_allWeight iM_enoughWeight iM_worthSum iM_firstRest iM_leastDrawn)]) rfl
                                  have hFc := va_freeM hD hS hA _ hMs
                                  refine va_calli (va_runV (As := [.int 4]) (rest := []) ⟨hx, hb, hml, hown, hts⟩ (tX7_no l dC dI _ oM x_7275 rM_tape 0 p0 z_7307 z_7308 z_7309 z_7310 z_7311 x_7363 x_7364 x_7276 rM_letters x_7365 iM_hasCourt rM_r rM_fresh rM_told rM_read rM_st rM_undone rM_kept iM_undos iM_images rM_fresher z_7315 iM_scale iM_night rM_heardRow rM_cutRow iM_breaths iM_cutMany iM_allBreaths rM_trial rM_words iM_fewestBreaths iM_orderMany iM_orderSum iM_leastOrder rM_often iM_setMany iM_someOf iM_allOf iM_allWeight iM_enoughWeight iM_worthSum iM_firstRest iM_leastDrawn 4 (by first | decide | omega) (by first | exact ⟨by omega, by omega⟩ | omega | decide) b_z_7308 b_x_7365 b_iM_hasCourt b_iM_undos b_iM_images b_iM_scale b_iM_breaths b_iM_cutMany) (cwV 1 hts (wd_V wd_396 wd_397 wd_398 wd_5 (wd_c wd_399)) rfl rfl rfl dv_yX7_no_1 ⟨Nat.le_of_ble_eq_true rfl, Nat.le_of_ble_eq_true rfl⟩) ⟨Pw.fb, recvX7 hK hP (q0 := 0) rfl, fun U hU hW => Pw.to (hP.ms _ hMs) (hD.ms _ hMs) (hK.ms [false, false, false, false, false, false, false, false, false, false] rfl) hE hS hFc hU hW⟩ rfl rfl hl.1 rfl (lv_room (Nat.le_of_ble_eq_true rfl)) dX7_court_200 ⟨Nat.le_of_ble_eq_true rfl, Nat.le_of_ble_eq_true rfl⟩) hS (fun q _ h => hFc q h) hFc (fun r u t H locs ht hvm hw hB hz1 hk1 hS => ?_)
                                  have hru9 := hw.2
                                  have hw := hw.1
                                  refine ex_1_1 hB (fun x_7368 e_x_7368_0 hB => ?_)
                                  obtain ⟨hP, hD⟩ := Bw.goN (ws' := [(oc7 oM x_7275 rM_tape 0 p0 z_7307 z_7308 z_7309 z_7310 z_7311 x_7363 x_7364 x_7368 rM_letters x_7365 iM_hasCourt rM_r rM_fresh rM_told rM_read rM_st rM_undone rM_kept iM_undos iM_images rM_fresher z_7315 iM_scale iM_night rM_heardRow rM_cutRow iM_breaths iM_cutMany iM_allBreaths rM_trial rM_words iM_fewestBreaths iM_orderMany iM_orderSum iM_leastOrder rM_often iM_setMany iM_someOf iM_allOf iM_allWeight iM_enoughWeight iM_worthSum iM_firstRest iM_leastDrawn), (arI rM_tape kM_tape 900 fM_tape), (arI rM_letters kM_letters 8 f_7316), (arI rM_r kM_r 287 fM_r), (arI rM_fresh kM_fresh 287 f_7317), (arI rM_told kM_told 90 fM_told), (arI rM_read kM_read 90 f_7318), (arI rM_st kM_st 90 fM_st), (arI rM_undone kM_undone 1440 fM_undone), (arI rM_kept kM_kept 270 fM_kept), (arI rM_fresher kM_fresher 8 f_7319)]) hB rfl ht hP hD _ hMs hk1 hFc rfl
                                  clear hz1 hk1 hvm ht hB hMs
                                  rw [← hru9] at e_x_7368_0
                                  obtain ⟨x_7369, rfl⟩ : ∃ z, z = r := ⟨_, rfl⟩
                                  have hG := hG.trans (un2_eq e_x_7368_0)
                                  exact wq_i hx hb hr (cI x_7369) ⟨⟨trivial, trivial⟩, (cI_of x_7369)⟩ (fun t ht hW => ⟨x_7275, 0, p0, z_7307, z_7308, z_7309, z_7310, z_7311, x_7363, x_7364, x_7368, x_7365, iM_hasCourt, iM_undos, iM_images, z_7315, iM_scale, f_7316, fM_r, f_7317, fM_told, f_7318, fM_st, f_7319, (by decide), ⟨by omega, by omega⟩, b_z_7308, b_z_7311, b_x_7365, ⟨b_iM_hasCourt.1, b_iM_hasCourt.2⟩, ⟨b_iM_undos.1, b_iM_undos.2⟩, ⟨b_iM_images.1, b_iM_images.2⟩, ⟨b_iM_scale.1, b_iM_scale.2⟩, (by have q0 := kc_0; have q1 := kc_1; first | assumption | omega), (by have q0 := kc_0; have q1 := kc_1; first | assumption | omega), (by have q0 := kc_0; have q1 := kc_1; first | assumption | omega), (by have q0 := kc_0; have q1 := kc_1; first | assumption | omega), (by have q0 := kc_0; have q1 := kc_1; first | assumption | omega), (by have q0 := kc_0; have q1 := kc_1; first | assumption | omega), (by have q0 := kc_0; have q1 := kc_1; first | assumption | omega), hi1_n_7320, (by have q0 := kc_0; have q1 := kc_1; first | assumption | omega), (cI_tup hG), Bw.to hP hD hK ht hW⟩) hS dX7_court_203 hlocks
                              · skip
                                have hG := hG.trans (if_pos c_7366)
                                have gc_7366 := ti_eq c_7366 rfl kc_0
                                exact ((om_b1155cdc e_x_7363_0 gc_7366)).elim
                        · skip
                          have hG := hG.trans (if_pos c_7327)
                          have gc_7327 := ti_eq c_7327 rfl kc_59
                          refine lv_aload_n hx hb dX7_court_122 rfl (lv_at hl 1 rfl) ?_
                          have hMs := ml_of hD [true, true, true, false, false, false, false, false, false, false, false] (wc := [(oc7 oM x_7275 rM_tape 0 p0 z_7307 z_7308 z_7309 z_7310 z_7311 z_7312 z_7313 x_7276 rM_letters z_7314 iM_hasCourt rM_r rM_fresh rM_told rM_read rM_st rM_undone rM_kept iM_undos iM_images rM_fresher z_7315 iM_scale iM_night rM_heardRow rM_cutRow iM_breaths iM_cutMany iM_allBreaths rM_trial rM_words iM_fewestBreaths iM_orderMany iM_orderSum iM_leastOrder rM_often iM_setMany iM_someOf iM_allOf iM_allWeight iM_enoughWeight iM_worthSum iM_firstRest iM_leastDrawn), (arI rM_tape kM_tape 900 fM_tape), (arI rM_letters kM_letters 8 f_7316)]) rfl
                          have hFc := va_freeM hD hS hA _ hMs
                          refine va_callv (va_runV (As := []) (rest := []) ⟨hx, hb, hml, hown, hts⟩ (tX7_next l dC dI _ oM x_7275 rM_tape fM_tape kM_tape 0 p0 z_7307 z_7308 z_7309 z_7310 z_7311 z_7312 z_7313 x_7276 rM_letters f_7316 kM_letters z_7314 iM_hasCourt rM_r rM_fresh rM_told rM_read rM_st rM_undone rM_kept iM_undos iM_images rM_fresher z_7315 iM_scale iM_night rM_heardRow rM_cutRow iM_breaths iM_cutMany iM_allBreaths rM_trial rM_words iM_fewestBreaths iM_orderMany iM_orderSum iM_leastOrder rM_often iM_setMany iM_someOf iM_allOf iM_allWeight iM_enoughWeight iM_worthSum iM_firstRest iM_leastDrawn (by first | decide | omega) (by first | exact ⟨by omega, by omega⟩ | omega | decide) b_z_7308 b_z_7311 b_z_7314 b_iM_hasCourt b_iM_undos b_iM_images b_iM_scale b_iM_breaths b_iM_cutMany hi1_n_7320) (cwV 0 hts (wd_V wd_400 wd_401 wd_402 wd_5 (wd_c wd_403)) rfl rfl rfl dv_yX7_next_0 ⟨Nat.le_of_ble_eq_true rfl, Nat.le_of_ble_eq_true rfl⟩) ⟨Pw.fb, recvX7 hK hP (q0 := 0) rfl, fun U hU hW => Pw.to (hP.ms _ hMs) (hD.ms _ hMs) (hK.ms [true, true, false, false, false, false, false, false, false, false] rfl) hE hS hFc hU hW⟩ rfl rfl hl.1 rfl (lv_room (Nat.le_of_ble_eq_true rfl)) dX7_court_123 ⟨Nat.le_of_ble_eq_true rfl, Nat.le_of_ble_eq_true rfl⟩) hS (fun q _ h => hFc q h) hFc (fun u t H locs ht hvm hw hB hz1 hk1 hS => ?_)
                          refine ex_6_6 hB (fun x_7370 x_7371 x_7372 x_7373 x_7374 f_7375 b_x_7371 b_x_7374 e_x_7370_0 e_x_7370_1 e_x_7370_2 e_x_7370_3 hB => ?_)
                          obtain ⟨hP, hD⟩ := Bw.goN (ws' := [(oc7 oM x_7275 rM_tape 0 p0 x_7370 x_7371 x_7372 x_7373 x_7374 z_7312 z_7313 x_7276 rM_letters z_7314 iM_hasCourt rM_r rM_fresh rM_told rM_read rM_st rM_undone rM_kept iM_undos iM_images rM_fresher z_7315 iM_scale iM_night rM_heardRow rM_cutRow iM_breaths iM_cutMany iM_allBreaths rM_trial rM_words iM_fewestBreaths iM_orderMany iM_orderSum iM_leastOrder rM_often iM_setMany iM_someOf iM_allOf iM_allWeight iM_enoughWeight iM_worthSum iM_firstRest iM_leastDrawn), (arI rM_tape kM_tape 900 fM_tape), (arI rM_letters kM_letters 8 f_7375), (arI rM_r kM_r 287 fM_r), (arI rM_fresh kM_fresh 287 f_7317), (arI rM_told kM_told 90 fM_told), (arI rM_read kM_read 90 f_7318), (arI rM_st kM_st 90 fM_st), (arI rM_undone kM_undone 1440 fM_undone), (arI rM_kept kM_kept 270 fM_kept), (arI rM_fresher kM_fresher 8 f_7319)]) hB rfl ht hP hD _ hMs hk1 hFc rfl
                          clear hz1 hk1 hvm ht hB hMs
                          have hG := hG.trans (un6_eq e_x_7370_3)
                          clear hi1_n_7320
                          refine lv_aload_n hx hb dX7_court_126 rfl (lv_at hl 1 rfl) ?_
                          have hMs := ml_of hD [true, true, true, false, true, false, true, false, false, false, true] (wc := [(oc7 oM x_7275 rM_tape 0 p0 x_7370 x_7371 x_7372 x_7373 x_7374 z_7312 z_7313 x_7276 rM_letters z_7314 iM_hasCourt rM_r rM_fresh rM_told rM_read rM_st rM_undone rM_kept iM_undos iM_images rM_fresher z_7315 iM_scale iM_night rM_heardRow rM_cutRow iM_breaths iM_cutMany iM_allBreaths rM_trial rM_words iM_fewestBreaths iM_orderMany iM_orderSum iM_leastOrder rM_often iM_setMany iM_someOf iM_allOf iM_allWeight iM_enoughWeight iM_worthSum iM_firstRest iM_leastDrawn), (arI rM_tape kM_tape 900 fM_tape), (arI rM_letters kM_letters 8 f_7375), (arI rM_fresh kM_fresh 287 f_7317), (arI rM_read kM_read 90 f_7318), (arI rM_fresher kM_fresher 8 f_7319)]) rfl
                          have hFc := va_freeM hD hS hA _ hMs
                          refine va_callv (va_runV (As := []) (rest := []) ⟨hx, hb, hml, hown, hts⟩ (tX7_readLine l dC dI _ oM x_7275 rM_tape fM_tape kM_tape 0 p0 x_7370 x_7371 x_7372 x_7373 x_7374 z_7312 z_7313 x_7276 rM_letters f_7375 kM_letters z_7314 iM_hasCourt rM_r rM_fresh f_7317 kM_fresh rM_told rM_read f_7318 kM_read rM_st rM_undone rM_kept iM_undos iM_images rM_fresher f_7319 kM_fresher z_7315 iM_scale iM_night rM_heardRow rM_cutRow iM_breaths iM_cutMany iM_allBreaths rM_trial rM_words iM_fewestBreaths iM_orderMany iM_orderSum iM_leastOrder rM_often iM_setMany iM_someOf iM_allOf iM_allWeight iM_enoughWeight iM_worthSum iM_firstRest iM_leastDrawn (by first | decide | omega) (by first | exact ⟨by omega, by omega⟩ | omega | decide) b_x_7371 b_x_7374 b_z_7314 b_iM_hasCourt b_iM_undos b_iM_images b_iM_scale b_iM_breaths b_iM_cutMany e_x_7370_1 hi0_n_7320) (cwV 0 hts (wd_V wd_416 wd_417 wd_418 wd_5 (wd_c wd_419)) rfl rfl rfl dv_yX7_readLine_0 ⟨Nat.le_of_ble_eq_true rfl, Nat.le_of_ble_eq_true rfl⟩) ⟨Pw.fb, recvX7 hK hP (q0 := 0) rfl, fun U hU hW => Pw.to (hP.ms _ hMs) (hD.ms _ hMs) (hK.ms [true, true, false, true, false, true, false, false, false, true] rfl) hE hS hFc hU hW⟩ rfl rfl hl.1 rfl (lv_room (Nat.le_of_ble_eq_true rfl)) dX7_court_127 ⟨Nat.le_of_ble_eq_true rfl, Nat.le_of_ble_eq_true rfl⟩) hS (fun q _ h => hFc q h) hFc (fun u t H locs ht hvm hw hB hz1 hk1 hS => ?_)
                          refine ex_13_9 hB (fun x_7376 x_7377 x_7378 x_7379 x_7380 x_7381 x_7382 x_7383 x_7384 f_7385 f_7386 f_7387 f_7388 b_x_7377 b_x_7380 b_x_7383 e_x_7376_0 e_x_7376_1 e_x_7376_2 e_x_7376_3 e_x_7376_4 e_x_7376_5 hB => ?_)
                          obtain ⟨hP, hD⟩ := Bw.goN (ws' := [(oc7 oM x_7275 rM_tape 0 p0 x_7376 x_7377 x_7378 x_7379 x_7380 x_7381 x_7382 x_7276 rM_letters x_7383 iM_hasCourt rM_r rM_fresh rM_told rM_read rM_st rM_undone rM_kept iM_undos iM_images rM_fresher x_7384 iM_scale iM_night rM_heardRow rM_cutRow iM_breaths iM_cutMany iM_allBreaths rM_trial rM_words iM_fewestBreaths iM_orderMany iM_orderSum iM_leastOrder rM_often iM_setMany iM_someOf iM_allOf iM_allWeight iM_enoughWeight iM_worthSum iM_firstRest iM_leastDrawn), (arI rM_tape kM_tape 900 fM_tape), (arI rM_letters kM_letters 8 f_7385), (arI rM_r kM_r 287 fM_r), (arI rM_fresh kM_fresh 287 f_7386), (arI rM_told kM_told 90 fM_told), (arI rM_read kM_read 90 f_7387), (arI rM_st kM_st 90 fM_st), (arI rM_undone kM_undone 1440 fM_undone), (arI rM_kept kM_kept 270 fM_kept), (arI rM_fresher kM_fresher 8 f_7388)]) hB rfl ht hP hD _ hMs hk1 hFc rfl
                          clear hz1 hk1 hvm ht hB hMs
                          have pl_f_7386 := e_x_7376_4.lins
                          have hG := hG.trans (un13_eq e_x_7376_5)
                          clear e_x_7370_1
                          clear e_x_7370_2
                          refine lv_goto (tgt := 106) hx hb dX7_court_130 (by decide) ?_
                          exact ih_n_7320 x_7376 x_7377 x_7378 x_7379 x_7380 x_7381 x_7382 x_7383 x_7384 f_7385 f_7386 f_7387 f_7388 _ _ _ b_x_7377 b_x_7380 b_x_7383 (by assumption) e_x_7376_1 (crtM_step hm_n_7320 (by omega) (by omega) (by omega) (by omega) (fun h9 => by have q0 := kc_0; have q1 := kc_1; have q9 := e_x_7376_3 (by omega); omega)) hG hP hD hS (lv_sub hl [0, 1, 2] rfl)
                  exact key_n_7320 ((crtM x_7301.toInt x_7296.toInt x_7295.toInt) + 1) x_7294 x_7295 x_7296 x_7297 x_7298 x_7299 x_7300 x_7301 x_7302 f_7303 f_7304 f_7305 f_7306 _ _ _ b_x_7295 b_x_7298 b_x_7301 (by assumption) e_x_7294_1 (Nat.lt_add_one _) hG hP hD hS hl
                · skip
                  have hG := hG.trans (if_neg c_7286)
                  have gc_7286 := ti_nle c_7286 kc_90 rfl
                  refine lv_aload_n hx hb dX7_court_67 rfl (lv_at hl 1 rfl) ?_
                  refine va_get (D := (dC, dI)) (ci := 7) (v := .ref rM_read) (C := RX7) (T := TX7) (N := 48) hx hb hts inX7 hown hK hP 0 rfl rfl 18 (by decide) (hts _ wd_158) (fun _ h9 => h9) rfl dX7_court_68 ?_
                  refine lv_iload_n hx hb dX7_court_71 rfl (lv_at hl 0 rfl) ?_
                  refine lv_iconst (v := 0) hx hb dX7_court_72 (by decide) ?_
                  refine va_iast hx hb hK hP hD hS 6 5 rfl rfl (ti_in rfl hi0_n_7285.1 (om_4ad7ab72 gc_7286)) dX7_court_73 (fun H locs hP hD hS => ?_)
                  obtain ⟨f_7389, ef_7389⟩ : ∃ g : Nat → Int32, g = upd f_7284 z_7283.toNatClampNeg (0 : Int32) := ⟨_, rfl⟩
                  rw [← ef_7389] at hP hD
                  have hG := hG.trans (lt_eq ef_7389)
                  obtain ⟨hP, hD⟩ := wl2 (ws' := [(oc7 oM x_7275 rM_tape 0 iM_size iM_at iM_end iM_token iM_whole iM_nameSize 0 iM_place x_7276 rM_letters 0 iM_hasCourt rM_r rM_fresh rM_told rM_read rM_st rM_undone rM_kept iM_undos iM_images rM_fresher iM_fresherSize iM_scale iM_night rM_heardRow rM_cutRow iM_breaths iM_cutMany iM_allBreaths rM_trial rM_words iM_fewestBreaths iM_orderMany iM_orderSum iM_leastOrder rM_often iM_setMany iM_someOf iM_allOf iM_allWeight iM_enoughWeight iM_worthSum iM_firstRest iM_leastDrawn), (arI rM_tape kM_tape 900 fM_tape), (arI rM_letters kM_letters 8 fM_letters), (arI rM_r kM_r 287 fM_r), (arI rM_fresh kM_fresh 287 f_7280), (arI rM_told kM_told 90 fM_told), (arI rM_read kM_read 90 f_7389), (arI rM_st kM_st 90 fM_st), (arI rM_undone kM_undone 1440 fM_undone), (arI rM_kept kM_kept 270 fM_kept), (arI rM_fresher kM_fresher 8 fM_fresher)]) hP hD rfl
                  obtain ⟨x_7390, ex_7390⟩ : ∃ z : Int32, z = z_7283 + Int32.ofInt 1 := ⟨_, rfl⟩
                  have hG := hG.trans (lt_eq ex_7390)
                  have vx_7390 : x_7390.toInt = z_7283.toInt + 1 := ti_add (y := 1) ex_7390 rfl kc_1 (om_4e4fce7e hi0_n_7285.1) (om_1eac56af hi0_n_7285.2)
                  refine lv_iinc (v := x_7390) (lv' := [(2, .int x_7390), (0, .ref oM), (1, .int p0)]) hx hb dX7_court_74 hl (k := 0) rfl ex_7390.symm (by decide) rfl (fun ls hl => ?_)
                  refine lv_goto (tgt := 61) hx hb dX7_court_77 (by decide) ?_
                  exact ih_n_7285 x_7390 f_7389 _ _ _  ⟨(om_83b90de5 hi0_n_7285.1 vx_7390), (om_1b19dd83 gc_7286 vx_7390)⟩ (zer_step hi1_n_7285 ef_7389 rfl rfl (by have q_1 := ti_cl (x := x_7390) vx_7390 (om_9548a8fd hi0_n_7285.1); have q_2 := ti_cl (x := z_7283) rfl hi0_n_7285.1; omega)) (ms_lt hm_n_7285 (om_59039de0 vx_7390) (om_1d81799e gc_7286)) hG hP hD hS (lv_sub hl [0, 1, 2] rfl)
            exact key_n_7285 (((90 - (0 : Int32).toInt).toNat) + 1) 0 fM_read _ _ _  ⟨(om_b1de7dbe kc_0), (om_aaba5e1c kc_0)⟩ zer_zero (Nat.lt_add_one _) hG hP hD hS hl
          · skip
            have hG := hG.trans (if_neg c_7282)
            have gc_7282 := ti_nle c_7282 kc_287 rfl
            refine lv_aload_n hx hb dX7_court_46 rfl (lv_at hl 1 rfl) ?_
            refine va_get (D := (dC, dI)) (ci := 7) (v := .ref rM_fresh) (C := RX7) (T := TX7) (N := 48) hx hb hts inX7 hown hK hP 0 rfl rfl 16 (by decide) (hts _ wd_156) (fun _ h9 => h9) rfl dX7_court_47 ?_
            refine lv_iload_n hx hb dX7_court_50 rfl (lv_at hl 0 rfl) ?_
            refine lv_iconst (v := 0) hx hb dX7_court_51 (by decide) ?_
            refine va_iast hx hb hK hP hD hS 4 3 rfl rfl (ti_in rfl hi0_n_7281.1 (om_6f4a0172 gc_7282)) dX7_court_52 (fun H locs hP hD hS => ?_)
            obtain ⟨f_7391, ef_7391⟩ : ∃ g : Nat → Int32, g = upd f_7280 z_7279.toNatClampNeg (0 : Int32) := ⟨_, rfl⟩
            rw [← ef_7391] at hP hD
            have hG := hG.trans (lt_eq ef_7391)
            obtain ⟨hP, hD⟩ := wl2 (ws' := [(oc7 oM x_7275 rM_tape 0 iM_size iM_at iM_end iM_token iM_whole iM_nameSize 0 iM_place x_7276 rM_letters 0 iM_hasCourt rM_r rM_fresh rM_told rM_read rM_st rM_undone rM_kept iM_undos iM_images rM_fresher iM_fresherSize iM_scale iM_night rM_heardRow rM_cutRow iM_breaths iM_cutMany iM_allBreaths rM_trial rM_words iM_fewestBreaths iM_orderMany iM_orderSum iM_leastOrder rM_often iM_setMany iM_someOf iM_allOf iM_allWeight iM_enoughWeight iM_worthSum iM_firstRest iM_leastDrawn), (arI rM_tape kM_tape 900 fM_tape), (arI rM_letters kM_letters 8 fM_letters), (arI rM_r kM_r 287 fM_r), (arI rM_fresh kM_fresh 287 f_7391), (arI rM_told kM_told 90 fM_told), (arI rM_read kM_read 90 fM_read), (arI rM_st kM_st 90 fM_st), (arI rM_undone kM_undone 1440 fM_undone), (arI rM_kept kM_kept 270 fM_kept), (arI rM_fresher kM_fresher 8 fM_fresher)]) hP hD rfl
            obtain ⟨x_7392, ex_7392⟩ : ∃ z : Int32, z = z_7279 + Int32.ofInt 1 := ⟨_, rfl⟩
            have hG := hG.trans (lt_eq ex_7392)
            have vx_7392 : x_7392.toInt = z_7279.toInt + 1 := ti_add (y := 1) ex_7392 rfl kc_1 (om_4e4fce7e hi0_n_7281.1) (om_a6c1c990 hi0_n_7281.2)
            refine lv_iinc (v := x_7392) (lv' := [(2, .int x_7392), (0, .ref oM), (1, .int p0)]) hx hb dX7_court_53 hl (k := 0) rfl ex_7392.symm (by decide) rfl (fun ls hl => ?_)
            refine lv_goto (tgt := 39) hx hb dX7_court_56 (by decide) ?_
            exact ih_n_7281 x_7392 f_7391 _ _ _  ⟨(om_83b90de5 hi0_n_7281.1 vx_7392), (om_9856eb95 gc_7282 vx_7392)⟩ (zer_step hi1_n_7281 ef_7391 rfl rfl (by have q_1 := ti_cl (x := x_7392) vx_7392 (om_9548a8fd hi0_n_7281.1); have q_2 := ti_cl (x := z_7279) rfl hi0_n_7281.1; omega)) (ms_lt hm_n_7281 (om_bf0cfbeb vx_7392) (om_cff46e25 gc_7282)) hG hP hD hS (lv_sub hl [0, 1, 2] rfl)
      exact key_n_7281 (((287 - (0 : Int32).toInt).toNat) + 1) 0 fM_fresh _ _ _  ⟨(om_b1de7dbe kc_0), (om_b976e3ef kc_0)⟩ zer_zero (Nat.lt_add_one _) hG hP hD hS hl
    · skip
      have hG := hG.trans (if_pos c_7278)
      have gc_7278 := ti_eq c_7278 rfl kc_0
      exfalso; clear hG; omega
  · skip
    have l9x_7277 := kc_0
    refine lv_if_ne (tgt := 22) hx hb dX7_court_13 (by decide) (fun c_7393 => ?_) (fun c_7393 => ?_)
    · skip
      have hG := hG.trans (if_neg c_7393)
      have gc_7393 := ti_ne c_7393 rfl kc_0
      replace gc_7393 : x_7277.toInt + 1 ≤ 0 := by omega
      exact ((om_5185113d dx_7277.1 gc_7393)).elim
    · skip
      have hG := hG.trans (if_pos c_7393)
      have gc_7393 := ti_eq c_7393 rfl kc_0
      refine lv_aload_n hx hb dX7_court_16 rfl (lv_at hl 0 rfl) ?_
      refine lv_iconst (v := 2) hx hb dX7_court_17 (by decide) ?_
      have hMs := ml_of hD [true, false, false, false, false, false, false, false, false, false, false] (wc := [(oc7 oM x_7275 rM_tape iM_taped iM_size iM_at iM_end iM_token iM_whole iM_nameSize iM_fault iM_place x_7276 rM_letters iM_failed iM_hasCourt rM_r rM_fresh rM_told rM_read rM_st rM_undone rM_kept iM_undos iM_images rM_fresher iM_fresherSize iM_scale iM_night rM_heardRow rM_cutRow iM_breaths iM_cutMany iM_allBreaths rM_trial rM_words iM_fewestBreaths iM_orderMany iM_orderSum iM_leastOrder rM_often iM_setMany iM_someOf iM_allOf iM_allWeight iM_enoughWeight iM_worthSum iM_firstRest iM_leastDrawn)]) rfl
      have hFc := va_freeM hD hS hA _ hMs
      refine va_calli (va_runV (As := [.int 2]) (rest := []) ⟨hx, hb, hml, hown, hts⟩ (tX7_no l dC dI _ oM x_7275 rM_tape iM_taped iM_size iM_at iM_end iM_token iM_whole iM_nameSize iM_fault iM_place x_7276 rM_letters iM_failed iM_hasCourt rM_r rM_fresh rM_told rM_read rM_st rM_undone rM_kept iM_undos iM_images rM_fresher iM_fresherSize iM_scale iM_night rM_heardRow rM_cutRow iM_breaths iM_cutMany iM_allBreaths rM_trial rM_words iM_fewestBreaths iM_orderMany iM_orderSum iM_leastOrder rM_often iM_setMany iM_someOf iM_allOf iM_allWeight iM_enoughWeight iM_worthSum iM_firstRest iM_leastDrawn 2 b_iM_taped b_iM_size b_iM_end b_iM_failed b_iM_hasCourt b_iM_undos b_iM_images b_iM_scale b_iM_breaths b_iM_cutMany) (cwV 1 hts (wd_V wd_396 wd_397 wd_398 wd_5 (wd_c wd_399)) rfl rfl rfl dv_yX7_no_1 ⟨Nat.le_of_ble_eq_true rfl, Nat.le_of_ble_eq_true rfl⟩) ⟨Pw.fb, recvX7 hK hP (q0 := 0) rfl, fun U hU hW => Pw.to (hP.ms _ hMs) (hD.ms _ hMs) (hK.ms [false, false, false, false, false, false, false, false, false, false] rfl) hE hS hFc hU hW⟩ rfl rfl hl.1 rfl (lv_room (Nat.le_of_ble_eq_true rfl)) dX7_court_18 ⟨Nat.le_of_ble_eq_true rfl, Nat.le_of_ble_eq_true rfl⟩) hS (fun q _ h => hFc q h) hFc (fun r u t H locs ht hvm hw hB hz1 hk1 hS => ?_)
      have hru9 := hw.2
      have hw := hw.1
      refine ex_1_1 hB (fun x_7394 e_x_7394_0 hB => ?_)
      obtain ⟨hP, hD⟩ := Bw.goN (ws' := [(oc7 oM x_7275 rM_tape iM_taped iM_size iM_at iM_end iM_token iM_whole iM_nameSize iM_fault iM_place x_7394 rM_letters iM_failed iM_hasCourt rM_r rM_fresh rM_told rM_read rM_st rM_undone rM_kept iM_undos iM_images rM_fresher iM_fresherSize iM_scale iM_night rM_heardRow rM_cutRow iM_breaths iM_cutMany iM_allBreaths rM_trial rM_words iM_fewestBreaths iM_orderMany iM_orderSum iM_leastOrder rM_often iM_setMany iM_someOf iM_allOf iM_allWeight iM_enoughWeight iM_worthSum iM_firstRest iM_leastDrawn), (arI rM_tape kM_tape 900 fM_tape), (arI rM_letters kM_letters 8 fM_letters), (arI rM_r kM_r 287 fM_r), (arI rM_fresh kM_fresh 287 fM_fresh), (arI rM_told kM_told 90 fM_told), (arI rM_read kM_read 90 fM_read), (arI rM_st kM_st 90 fM_st), (arI rM_undone kM_undone 1440 fM_undone), (arI rM_kept kM_kept 270 fM_kept), (arI rM_fresher kM_fresher 8 fM_fresher)]) hB rfl ht hP hD _ hMs hk1 hFc rfl
      clear hz1 hk1 hvm ht hB hMs
      rw [← hru9] at e_x_7394_0
      obtain ⟨x_7395, rfl⟩ : ∃ z, z = r := ⟨_, rfl⟩
      have hG := hG.trans (un2_eq e_x_7394_0)
      exact wq_i hx hb hr (cI x_7395) ⟨⟨trivial, trivial⟩, (cI_of x_7395)⟩ (fun t ht hW => ⟨x_7275, iM_taped, iM_size, iM_at, iM_end, iM_token, iM_whole, iM_nameSize, iM_fault, iM_place, x_7394, iM_failed, iM_hasCourt, iM_undos, iM_images, iM_fresherSize, iM_scale, fM_letters, fM_r, fM_fresh, fM_told, fM_read, fM_st, fM_fresher, ⟨b_iM_taped.1, b_iM_taped.2⟩, ⟨b_iM_size.1, b_iM_size.2⟩, ⟨b_iM_end.1, b_iM_end.2⟩, ⟨b_iM_nameSize.1, b_iM_nameSize.2⟩, ⟨b_iM_failed.1, b_iM_failed.2⟩, ⟨b_iM_hasCourt.1, b_iM_hasCourt.2⟩, ⟨b_iM_undos.1, b_iM_undos.2⟩, ⟨b_iM_images.1, b_iM_images.2⟩, ⟨b_iM_scale.1, b_iM_scale.2⟩, (by have q0 := kc_0; have q1 := kc_1; first | assumption | omega), (by have q0 := kc_0; have q1 := kc_1; first | assumption | omega), (by have q0 := kc_0; have q1 := kc_1; first | assumption | omega), (by have q0 := kc_0; have q1 := kc_1; first | assumption | omega), (by have q0 := kc_0; have q1 := kc_1; first | assumption | omega), (by have q0 := kc_0; have q1 := kc_1; first | assumption | omega), (by have q0 := kc_0; have q1 := kc_1; first | assumption | omega), r_T, (by have q0 := kc_0; have q1 := kc_1; first | assumption | omega), (cI_tup hG), Bw.to hP hD hK ht hW⟩) hS dX7_court_21 hlocks
