set_option maxHeartbeats 4000000 in
set_option maxRecDepth 100000 in
theorem tX7_frontOf (l : Launch) (dC : Nat → ClassId) (dI : Nat → Nat → Nat) (sz : Nat) (oM : Nat) (iM_thrown : Int32) (rM_tape : Nat) (iM_taped : Int32) (iM_size : Int32) (iM_at : Int32) (iM_end : Int32) (iM_token : Int32) (iM_whole : Int32) (iM_nameSize : Int32) (iM_fault : Int32) (iM_place : Int32) (iM_trouble : Int32) (rM_letters : Nat) (iM_failed : Int32) (iM_hasCourt : Int32) (rM_r : Nat) (fM_r : Nat → Int32) (kM_r : ClassId) (rM_fresh : Nat) (rM_told : Nat) (rM_read : Nat) (rM_st : Nat) (rM_undone : Nat) (rM_kept : Nat) (iM_undos : Int32) (iM_images : Int32) (rM_fresher : Nat) (iM_fresherSize : Int32) (iM_scale : Int32) (iM_night : Int32) (rM_heardRow : Nat) (rM_cutRow : Nat) (iM_breaths : Int32) (iM_cutMany : Int32) (iM_allBreaths : Int32) (rM_trial : Nat) (rM_words : Nat) (iM_fewestBreaths : Int32) (iM_orderMany : Int32) (iM_orderSum : Int32) (iM_leastOrder : Int32) (rM_often : Nat) (iM_setMany : Int32) (iM_someOf : Int32) (iM_allOf : Int32) (iM_allWeight : Int64) (iM_enoughWeight : Int64) (iM_worthSum : Int64) (iM_firstRest : Int32) (iM_leastDrawn : Int32) (rQ : Nat) (fQ : Nat → Int32) (kQ : ClassId) (p0 : Int32) (p1 : Int32) (b_iM_taped : 0 ≤ iM_taped.toInt ∧ iM_taped.toInt ≤ 900) (b_iM_size : 0 ≤ iM_size.toInt ∧ iM_size.toInt ≤ 900) (b_iM_end : 0 ≤ iM_end.toInt ∧ iM_end.toInt ≤ 900) (b_iM_failed : 0 ≤ iM_failed.toInt ∧ iM_failed.toInt ≤ 1) (b_iM_hasCourt : 0 ≤ iM_hasCourt.toInt ∧ iM_hasCourt.toInt ≤ 1) (b_iM_undos : 0 ≤ iM_undos.toInt ∧ iM_undos.toInt ≤ 16) (b_iM_images : 0 ≤ iM_images.toInt ∧ iM_images.toInt ≤ 3) (b_iM_scale : 1 ≤ iM_scale.toInt ∧ iM_scale.toInt ≤ 1296) (b_iM_breaths : 0 ≤ iM_breaths.toInt ∧ iM_breaths.toInt ≤ 399) (b_iM_cutMany : 0 ≤ iM_cutMany.toInt ∧ iM_cutMany.toInt ≤ 399) (r_R : ROk fM_r) (r_C : iM_hasCourt.toInt ≤ 0 ∨ (1 ≤ (fM_r 1).toInt ∧ 0 ≤ (fM_r 6).toInt ∧ (fM_r 6).toInt < (fM_r 1).toInt)) (r_Q : RowOk fM_r fQ) (hk0 : 0 ≤ p0.toInt ∧ p0.toInt < (fM_r 1).toInt) (hi9 : 0 ≤ p1.toInt ∧ p1.toInt < (fM_r (27 + p0.toNatClampNeg)).toInt) : Met l yX7_frontOf (Cond.code yX7_frontOf cX7_frontOf 6 none :: wG) ({ frames := 0, cells := 0, slots := 0, locals := 0 }) (va_Pc [.ref oM, .ref rQ, .int p0, .int p1] (Pw dC dI sz [(oc7 oM iM_thrown rM_tape iM_taped iM_size iM_at iM_end iM_token iM_whole iM_nameSize iM_fault iM_place iM_trouble rM_letters iM_failed iM_hasCourt rM_r rM_fresh rM_told rM_read rM_st rM_undone rM_kept iM_undos iM_images rM_fresher iM_fresherSize iM_scale iM_night rM_heardRow rM_cutRow iM_breaths iM_cutMany iM_allBreaths rM_trial rM_words iM_fewestBreaths iM_orderMany iM_orderSum iM_leastOrder rM_often iM_setMany iM_someOf iM_allOf iM_allWeight iM_enoughWeight iM_worthSum iM_firstRest iM_leastDrawn), (arI rM_r kM_r 287 fM_r), (arI rQ kQ 90 fQ)] [(kM_r, .int), (kQ, .int)])) (va_Qv (fun (_ : Nat) => True) (fun (_ : Nat) (t : State) => ∃ (nfQ : Nat → Int32), (RowOk fM_r nfQ) ∧ (∀ j : Nat, 72 ≤ j → nfQ j = fQ j) ∧ (PX7_frontOf fQ p0 p1 = nfQ) ∧ Bw dC dI (va_A [(oc7 oM iM_thrown rM_tape iM_taped iM_size iM_at iM_end iM_token iM_whole iM_nameSize iM_fault iM_place iM_trouble rM_letters iM_failed iM_hasCourt rM_r rM_fresh rM_told rM_read rM_st rM_undone rM_kept iM_undos iM_images rM_fresher iM_fresherSize iM_scale iM_night rM_heardRow rM_cutRow iM_breaths iM_cutMany iM_allBreaths rM_trial rM_words iM_fewestBreaths iM_orderMany iM_orderSum iM_leastOrder rM_often iM_setMany iM_someOf iM_allOf iM_allWeight iM_enoughWeight iM_worthSum iM_firstRest iM_leastDrawn), (arI rM_r kM_r 287 fM_r), (arI rQ kQ 90 fQ)] sz) [(oc7 oM iM_thrown rM_tape iM_taped iM_size iM_at iM_end iM_token iM_whole iM_nameSize iM_fault iM_place iM_trouble rM_letters iM_failed iM_hasCourt rM_r rM_fresh rM_told rM_read rM_st rM_undone rM_kept iM_undos iM_images rM_fresher iM_fresherSize iM_scale iM_night rM_heardRow rM_cutRow iM_breaths iM_cutMany iM_allBreaths rM_trial rM_words iM_fewestBreaths iM_orderMany iM_orderSum iM_leastOrder rM_often iM_setMany iM_someOf iM_allOf iM_allWeight iM_enoughWeight iM_worthSum iM_firstRest iM_leastDrawn), (arI rM_r kM_r 287 fM_r), (arI rQ kQ 90 nfQ)] [(kM_r, .int), (kQ, .int)] t) (va_A [(oc7 oM iM_thrown rM_tape iM_taped iM_size iM_at iM_end iM_token iM_whole iM_nameSize iM_fault iM_place iM_trouble rM_letters iM_failed iM_hasCourt rM_r rM_fresh rM_told rM_read rM_st rM_undone rM_kept iM_undos iM_images rM_fresher iM_fresherSize iM_scale iM_night rM_heardRow rM_cutRow iM_breaths iM_cutMany iM_allBreaths rM_trial rM_words iM_fewestBreaths iM_orderMany iM_orderSum iM_leastOrder rM_often iM_setMany iM_someOf iM_allOf iM_allWeight iM_enoughWeight iM_worthSum iM_firstRest iM_leastDrawn), (arI rM_r kM_r 287 fM_r), (arI rQ kQ 90 fQ)] sz)) 0 0 (va_A [(oc7 oM iM_thrown rM_tape iM_taped iM_size iM_at iM_end iM_token iM_whole iM_nameSize iM_fault iM_place iM_trouble rM_letters iM_failed iM_hasCourt rM_r rM_fresh rM_told rM_read rM_st rM_undone rM_kept iM_undos iM_images rM_fresher iM_fresherSize iM_scale iM_night rM_heardRow rM_cutRow iM_breaths iM_cutMany iM_allBreaths rM_trial rM_words iM_fewestBreaths iM_orderMany iM_orderSum iM_leastOrder rM_often iM_setMany iM_someOf iM_allOf iM_allWeight iM_enoughWeight iM_worthSum iM_firstRest iM_leastDrawn), (arI rM_r kM_r 287 fM_r), (arI rQ kQ 90 fQ)] sz) := by
  refine Met.ofW (cc := cX7_frontOf) (maxL := 6) (ret := none) pnX7 rfl ?_
  intro p e s m args below meth c s₁ B hml hv
  obtain ⟨rfl, hsz, hP, hK, hD0, hE⟩ := hv
  have hx := B.exec
  have hb := B.bytes
  have hr := B.returns
  have hts : ∀ w ∈ wG, w.before ([.ref oM, .ref rQ, .int p0, .int p1] : List Value).toArray s = true := fun w h => atoms_spec (ws := Cond.code yX7_frontOf cX7_frontOf 6 none :: wG) B.pre w (List.mem_cons_of_mem _ h)
  have hown : s.vm.findClass RX7 = some m.cls := own_of B.named rfl
  have hlocks := B.notSynchronized
  subst hsz
  have hD := hD0.self (sz := s.heap.size)
  generalize hAe : va_A [(oc7 oM iM_thrown rM_tape iM_taped iM_size iM_at iM_end iM_token iM_whole iM_nameSize iM_fault iM_place iM_trouble rM_letters iM_failed iM_hasCourt rM_r rM_fresh rM_told rM_read rM_st rM_undone rM_kept iM_undos iM_images rM_fresher iM_fresherSize iM_scale iM_night rM_heardRow rM_cutRow iM_breaths iM_cutMany iM_allBreaths rM_trial rM_words iM_fewestBreaths iM_orderMany iM_orderSum iM_leastOrder rM_often iM_setMany iM_someOf iM_allOf iM_allWeight iM_enoughWeight iM_worthSum iM_firstRest iM_leastDrawn), (arI rM_r kM_r 287 fM_r), (arI rQ kQ 90 fQ)] s.heap.size = A at hD hE ⊢
  have hA : ∀ q : Nat, s.heap.size ≤ q → A q := fun q h => by rw [← hAe]; exact Or.inr h
  have hS : va_S A s.heap s.heap [] := va_S.rf
  have hl := lv_entry ([.ref oM, .ref rQ, .int p0, .int p1]) (n := 6) (Nat.le_of_ble_eq_true rfl)
  rw [lg_entry_eq]
  generalize (lg_sl ([.ref oM, .ref rQ, .int p0, .int p1]) ++ List.replicate (6 - (lg_sl ([.ref oM, .ref rQ, .int p0, .int p1])).length) Slot.unset).toArray = ls at hl ⊢
  have hl : lv_has ls 6 [(0, .ref oM), (1, .ref rQ), (2, .int p0), (3, .int p1)] := hl
  have hG := PX7_frontOf_eq fQ p0 p1
  have s_slips := r_R.slips
  have s_nodes := r_R.nodes
  have s_uns := r_R.uns
  have q_p0 := ti_cl (x := p0) rfl hk0.1
  have mn_p0 := r_R.many (27 + p0.toNatClampNeg) (Nat.le_add_right _ _) (om_6c263690 (ti_cl (x := p0) rfl hk0.1) hk0.2 s_nodes.2)
  have kn_p0 := r_R.kind (9 + p0.toNatClampNeg) (Nat.le_add_right _ _) (om_57ce868b (ti_cl (x := p0) rfl hk0.1) hk0.2 s_nodes.2)
  have in_p0 := r_R.inner p0.toNatClampNeg (om_05d4ad0a (ti_cl (x := p0) rfl hk0.1) hk0.2)
  refine lv_aload_n hx hb dX7_frontOf_0 rfl (lv_at hl 1 rfl) ?_
  refine lv_iconst (v := 4) hx hb dX7_frontOf_1 (by decide) ?_
  refine lv_iload_n hx hb dX7_frontOf_2 rfl (lv_at hl 2 rfl) ?_
  refine lv_imul hx hb dX7_frontOf_3 ?_
  refine lv_topi (fun x_1631 ex_1631 => ?_)
  have hG := hG.trans (lt_eq ex_1631)
  have vx_1631 : x_1631.toInt = 4 * p0.toInt := ti_mul ex_1631 kc_4 rfl (om_56b74365 hk0.1) (om_eac0354e hk0.2 s_nodes.2)
  refine lv_iload_n hx hb dX7_frontOf_4 rfl (lv_at hl 3 rfl) ?_
  refine lv_iadd hx hb dX7_frontOf_5 ?_
  refine lv_topi (fun x_1632 ex_1632 => ?_)
  have hG := hG.trans (lt_eq ex_1632)
  have vx_1632 : x_1632.toInt = 4 * p0.toInt + p1.toInt := om_5d0caf0f (ti_add ex_1632 vx_1631 rfl (om_056a216f hk0.1 hi9.1) (om_ef44811a hk0.2 hi9.2 s_nodes.2 mn_p0.2))
  refine va_iald hx hb hK hP 2 1 rfl rfl (ti_in vx_1632 (om_fc2812d4 hk0.1 hi9.1) (om_fce5e355 hk0.2 hi9.2 s_nodes.2 mn_p0.2)) dX7_frontOf_6 ?_
  refine lv_topi (fun x_1633 ex_1633 => ?_)
  have hG := hG.trans (lt_eq ex_1633)
  have kx_1633 : (fQ x_1632.toNatClampNeg).toInt = x_1633.toInt := by rw [ex_1633]
  have cx_1633 : (fQ (4 * p0.toNatClampNeg + p1.toNatClampNeg)).toInt = x_1633.toInt := by rw [show 4 * p0.toNatClampNeg + p1.toNatClampNeg = x_1632.toNatClampNeg from (om_4de36627 (ti_cl (x := p0) rfl hk0.1) (ti_cl (x := p1) rfl hi9.1) (ti_cl (x := x_1632) vx_1632 (om_fc2812d4 hk0.1 hi9.1)))]; exact kx_1633
  have wx_1633 : 0 ≤ x_1633.toInt ∧ x_1633.toInt < p0.toInt := row_lt r_Q (i := p1.toNatClampNeg) (ti_cl (x := p0) rfl hk0.1) (ti_cl (x := p1) rfl hi9.1) hk0.2 hi9.2 (om_24300f0a (ti_cl (x := p0) rfl hk0.1) (ti_cl (x := p1) rfl hi9.1)) cx_1633
  refine lv_istore (lv' := [(4, .int x_1633), (0, .ref oM), (1, .ref rQ), (2, .int p0), (3, .int p1)]) hx hb dX7_frontOf_7 hl (by decide) rfl (fun ls hl => ?_)
  refine lv_iload_n hx hb dX7_frontOf_9 rfl (lv_at hl 4 rfl) ?_
  refine lv_istore (lv' := [(5, .int p1), (4, .int x_1633), (0, .ref oM), (1, .ref rQ), (2, .int p0), (3, .int p1)]) hx hb dX7_frontOf_10 hl (by decide) rfl (fun ls hl => ?_)
  have hl := lv_sub hl (l' := [(5, .int p1), (4, .int x_1633), (0, .ref oM), (1, .ref rQ), (2, .int p0), (3, .int p1)]) [0, 1, 2, 3, 4, 5] rfl
  have key_n_1636 : ∀ (n_1636 : Nat) (z_1634 : Int32) (f_1635 : Nat → Int32) (H : Heap) (locs : List Loc) (ls : Array Slot), (0 ≤ z_1634.toInt ∧ z_1634.toInt ≤ p1.toInt) → (FrontI fQ (4 * p0.toNatClampNeg) p1.toNatClampNeg z_1634.toNatClampNeg f_1635) → z_1634.toInt.toNat < n_1636 → (PX7_frontOf fQ p0 p1 = HX7_frontOf_0 p0 x_1633 n_1636 z_1634 f_1635) → va_P (dC, dI) vwCl [(oc7 oM iM_thrown rM_tape iM_taped iM_size iM_at iM_end iM_token iM_whole iM_nameSize iM_fault iM_place iM_trouble rM_letters iM_failed iM_hasCourt rM_r rM_fresh rM_told rM_read rM_st rM_undone rM_kept iM_undos iM_images rM_fresher iM_fresherSize iM_scale iM_night rM_heardRow rM_cutRow iM_breaths iM_cutMany iM_allBreaths rM_trial rM_words iM_fewestBreaths iM_orderMany iM_orderSum iM_leastOrder rM_often iM_setMany iM_someOf iM_allOf iM_allWeight iM_enoughWeight iM_worthSum iM_firstRest iM_leastDrawn), (arI rM_r kM_r 287 fM_r), (arI rQ kQ 90 f_1635)] H → va_D A [(oc7 oM iM_thrown rM_tape iM_taped iM_size iM_at iM_end iM_token iM_whole iM_nameSize iM_fault iM_place iM_trouble rM_letters iM_failed iM_hasCourt rM_r rM_fresh rM_told rM_read rM_st rM_undone rM_kept iM_undos iM_images rM_fresher iM_fresherSize iM_scale iM_night rM_heardRow rM_cutRow iM_breaths iM_cutMany iM_allBreaths rM_trial rM_words iM_fewestBreaths iM_orderMany iM_orderSum iM_leastOrder rM_often iM_setMany iM_someOf iM_allOf iM_allWeight iM_enoughWeight iM_worthSum iM_firstRest iM_leastDrawn), (arI rM_r kM_r 287 fM_r), (arI rQ kQ 90 f_1635)] → va_S A s.heap H locs → lv_has ls 6 [(5, .int z_1634), (4, .int x_1633), (0, .ref oM), (1, .ref rQ), (2, .int p0), (3, .int p1)] → W p l e (headSpec (Cond.code yX7_frontOf cX7_frontOf 6 none :: wG) ({ frames := 0, cells := 0, slots := 0, locals := 0 })).room s m ([.ref oM, .ref rQ, .int p0, .int p1] : List Value).toArray below meth c H locs 0 0 (MQ below (va_Qv (fun (_ : Nat) => True) (fun (_ : Nat) (t : State) => ∃ (nfQ : Nat → Int32), (RowOk fM_r nfQ) ∧ (∀ j : Nat, 72 ≤ j → nfQ j = fQ j) ∧ (PX7_frontOf fQ p0 p1 = nfQ) ∧ Bw dC dI A [(oc7 oM iM_thrown rM_tape iM_taped iM_size iM_at iM_end iM_token iM_whole iM_nameSize iM_fault iM_place iM_trouble rM_letters iM_failed iM_hasCourt rM_r rM_fresh rM_told rM_read rM_st rM_undone rM_kept iM_undos iM_images rM_fresher iM_fresherSize iM_scale iM_night rM_heardRow rM_cutRow iM_breaths iM_cutMany iM_allBreaths rM_trial rM_words iM_fewestBreaths iM_orderMany iM_orderSum iM_leastOrder rM_often iM_setMany iM_someOf iM_allOf iM_allWeight iM_enoughWeight iM_worthSum iM_firstRest iM_leastDrawn), (arI rM_r kM_r 287 fM_r), (arI rQ kQ 90 nfQ)] [(kM_r, .int), (kQ, .int)] t) A) ([.ref oM, .ref rQ, .int p0, .int p1] : List Value).toArray s 0 0 A) (F0 m 12 ls []) := by
    intro n_1636
    induction n_1636 with
    | zero => intro z_1634 f_1635 H locs ls hi0_n_1636 hi1_n_1636 hm; exact absurd hm (Nat.not_lt_zero _)
    | succ n_1636 ih_n_1636 =>
      intro z_1634 f_1635 H locs ls hi0_n_1636 hi1_n_1636 hm_n_1636 hG hP hD hS hl
      have hG := hG.trans (HX7_frontOf_0_eq _ _ _ _ _)
      refine lv_iload hx hb dX7_frontOf_12 (lv_at hl 0 rfl) ?_
      refine lv_if_le (tgt := 41) hx hb dX7_frontOf_14 (by decide) (fun c_1637 => ?_) (fun c_1637 => ?_)
      · skip
        have hG := hG.trans (if_pos c_1637)
        have gc_1637 := ti_le c_1637 rfl kc_0
        refine lv_aload_n hx hb dX7_frontOf_41 rfl (lv_at hl 3 rfl) ?_
        refine lv_iconst (v := 4) hx hb dX7_frontOf_42 (by decide) ?_
        refine lv_iload_n hx hb dX7_frontOf_43 rfl (lv_at hl 4 rfl) ?_
        refine lv_imul hx hb dX7_frontOf_44 ?_
        refine lv_topi (fun x_1638 ex_1638 => ?_)
        have hG := hG.trans (lt_eq ex_1638)
        have vx_1638 : x_1638.toInt = 4 * p0.toInt := ti_mul ex_1638 kc_4 rfl (om_56b74365 hk0.1) (om_eac0354e hk0.2 s_nodes.2)
        refine lv_iload hx hb dX7_frontOf_45 (lv_at hl 1 rfl) ?_
        refine va_iast hx hb hK hP hD hS 2 1 rfl rfl (ti_in vx_1638 (om_707cdfc8 hk0.1) (om_0fea8496 hk0.2 s_nodes.2)) dX7_frontOf_47 (fun H locs hP hD hS => ?_)
        obtain ⟨f_1639, ef_1639⟩ : ∃ g : Nat → Int32, g = upd f_1635 x_1638.toNatClampNeg x_1633 := ⟨_, rfl⟩
        rw [← ef_1639] at hP hD
        have hG := hG.trans (lt_eq ef_1639)
        obtain ⟨hP, hD⟩ := wl2 (ws' := [(oc7 oM iM_thrown rM_tape iM_taped iM_size iM_at iM_end iM_token iM_whole iM_nameSize iM_fault iM_place iM_trouble rM_letters iM_failed iM_hasCourt rM_r rM_fresh rM_told rM_read rM_st rM_undone rM_kept iM_undos iM_images rM_fresher iM_fresherSize iM_scale iM_night rM_heardRow rM_cutRow iM_breaths iM_cutMany iM_allBreaths rM_trial rM_words iM_fewestBreaths iM_orderMany iM_orderSum iM_leastOrder rM_often iM_setMany iM_someOf iM_allOf iM_allWeight iM_enoughWeight iM_worthSum iM_firstRest iM_leastDrawn), (arI rM_r kM_r 287 fM_r), (arI rQ kQ 90 f_1639)]) hP hD rfl
        have fr0 : FrontI fQ (4 * p0.toNatClampNeg) p1.toNatClampNeg 0 f_1635 := by rw [show (0 : Nat) = z_1634.toNatClampNeg from by have q1 := ti_cl (x := z_1634) rfl hi0_n_1636.1; omega]; exact hi1_n_1636
        have hq4 : x_1638.toNatClampNeg = 4 * p0.toNatClampNeg := by have q1 := ti_cl (x := x_1638) vx_1638 (om_707cdfc8 hk0.1); have q2 := ti_cl (x := p0) rfl hk0.1; omega
        have rf9 : RowOk fM_r f_1639 := RowOk.front r_R r_Q (by have q2 := ti_cl (x := p0) rfl hk0.1; omega) (by have q2 := ti_cl (x := p1) rfl hi9.1; omega) fr0 ef_1639 hq4 (by have q := cx_1633; omega)
        have rk9 : ∀ j : Nat, 72 ≤ j → f_1639 j = fQ j := front_keeps fr0 ef_1639 hq4 (by have q2 := ti_cl (x := p0) rfl hk0.1; have q4 := ti_cl (x := p1) rfl hi9.1; omega)
        exact wq_v hx hb hr 0 trivial (fun t ht hW => ⟨f_1639, (by first | assumption | omega | decide), (by first | assumption | omega | decide), hG, Bw.to hP hD hK ht hW⟩) hS dX7_frontOf_48 hlocks
      · skip
        have hG := hG.trans (if_neg c_1637)
        have gc_1637 := ti_nle c_1637 rfl kc_0
        refine lv_aload_n hx hb dX7_frontOf_17 rfl (lv_at hl 3 rfl) ?_
        refine lv_iconst (v := 4) hx hb dX7_frontOf_18 (by decide) ?_
        refine lv_iload_n hx hb dX7_frontOf_19 rfl (lv_at hl 4 rfl) ?_
        refine lv_imul hx hb dX7_frontOf_20 ?_
        refine lv_topi (fun x_1640 ex_1640 => ?_)
        have hG := hG.trans (lt_eq ex_1640)
        have vx_1640 : x_1640.toInt = 4 * p0.toInt := ti_mul ex_1640 kc_4 rfl (om_56b74365 hk0.1) (om_eac0354e hk0.2 s_nodes.2)
        refine lv_iload hx hb dX7_frontOf_21 (lv_at hl 0 rfl) ?_
        refine lv_iadd hx hb dX7_frontOf_23 ?_
        refine lv_topi (fun x_1641 ex_1641 => ?_)
        have hG := hG.trans (lt_eq ex_1641)
        have vx_1641 : x_1641.toInt = 4 * p0.toInt + z_1634.toInt := om_5d0caf0f (ti_add ex_1641 vx_1640 rfl (om_056a216f hk0.1 hi0_n_1636.1) (om_e7fed2a5 hk0.2 hi9.2 s_nodes.2 mn_p0.2 hi0_n_1636.2))
        refine lv_aload_n hx hb dX7_frontOf_24 rfl (lv_at hl 3 rfl) ?_
        refine lv_iconst (v := 4) hx hb dX7_frontOf_25 (by decide) ?_
        refine lv_iload_n hx hb dX7_frontOf_26 rfl (lv_at hl 4 rfl) ?_
        refine lv_imul hx hb dX7_frontOf_27 ?_
        refine lv_topi (fun x_1642 ex_1642 => ?_)
        have hG := hG.trans (lt_eq ex_1642)
        have vx_1642 : x_1642.toInt = 4 * p0.toInt := ti_mul ex_1642 kc_4 rfl (om_56b74365 hk0.1) (om_eac0354e hk0.2 s_nodes.2)
        refine lv_iload hx hb dX7_frontOf_28 (lv_at hl 0 rfl) ?_
        refine lv_iadd hx hb dX7_frontOf_30 ?_
        refine lv_topi (fun x_1643 ex_1643 => ?_)
        have hG := hG.trans (lt_eq ex_1643)
        have vx_1643 : x_1643.toInt = 4 * p0.toInt + z_1634.toInt := om_5d0caf0f (ti_add ex_1643 vx_1642 rfl (om_056a216f hk0.1 hi0_n_1636.1) (om_e7fed2a5 hk0.2 hi9.2 s_nodes.2 mn_p0.2 hi0_n_1636.2))
        refine lv_iconst (v := 1) hx hb dX7_frontOf_31 (by decide) ?_
        refine lv_isub hx hb dX7_frontOf_32 ?_
        refine lv_topi (fun x_1644 ex_1644 => ?_)
        have hG := hG.trans (lt_eq ex_1644)
        have vx_1644 : x_1644.toInt = 4 * p0.toInt + z_1634.toInt + (-1) := om_75706c8a (ti_sub ex_1644 vx_1643 kc_1 (om_9f91692d hk0.1 hi0_n_1636.1) (om_788ee1bc hk0.2 hi9.2 s_nodes.2 mn_p0.2 hi0_n_1636.2))
        refine va_iald hx hb hK hP 2 1 rfl rfl (ti_in vx_1644 (om_cc8db027 hk0.1 gc_1637) (om_6b2d4e71 hk0.2 hi9.2 s_nodes.2 mn_p0.2 hi0_n_1636.2)) dX7_frontOf_33 ?_
        refine lv_topi (fun x_1645 ex_1645 => ?_)
        have hG := hG.trans (lt_eq ex_1645)
        have kx_1645 : (f_1635 x_1644.toNatClampNeg).toInt = x_1645.toInt := by rw [ex_1645]
        refine va_iast hx hb hK hP hD hS 2 1 rfl rfl (ti_in vx_1641 (om_fc2812d4 hk0.1 hi0_n_1636.1) (om_c4d8e5eb hk0.2 hi9.2 s_nodes.2 mn_p0.2 hi0_n_1636.2)) dX7_frontOf_34 (fun H locs hP hD hS => ?_)
        obtain ⟨f_1646, ef_1646⟩ : ∃ g : Nat → Int32, g = upd f_1635 x_1641.toNatClampNeg x_1645 := ⟨_, rfl⟩
        rw [← ef_1646] at hP hD
        have hG := hG.trans (lt_eq ef_1646)
        obtain ⟨hP, hD⟩ := wl2 (ws' := [(oc7 oM iM_thrown rM_tape iM_taped iM_size iM_at iM_end iM_token iM_whole iM_nameSize iM_fault iM_place iM_trouble rM_letters iM_failed iM_hasCourt rM_r rM_fresh rM_told rM_read rM_st rM_undone rM_kept iM_undos iM_images rM_fresher iM_fresherSize iM_scale iM_night rM_heardRow rM_cutRow iM_breaths iM_cutMany iM_allBreaths rM_trial rM_words iM_fewestBreaths iM_orderMany iM_orderSum iM_leastOrder rM_often iM_setMany iM_someOf iM_allOf iM_allWeight iM_enoughWeight iM_worthSum iM_firstRest iM_leastDrawn), (arI rM_r kM_r 287 fM_r), (arI rQ kQ 90 f_1646)]) hP hD rfl
        obtain ⟨x_1647, ex_1647⟩ : ∃ z : Int32, z = z_1634 + Int32.ofInt (-1) := ⟨_, rfl⟩
        have hG := hG.trans (lt_eq ex_1647)
        have vx_1647 : x_1647.toInt = z_1634.toInt + (-1) := ti_add (y := (-1)) ex_1647 rfl kc_m1 (om_dd968ed2 hi0_n_1636.1) (om_5ef458c1 hi9.2 mn_p0.2 hi0_n_1636.2)
        refine lv_iinc (v := x_1647) (lv' := [(5, .int x_1647), (4, .int x_1633), (0, .ref oM), (1, .ref rQ), (2, .int p0), (3, .int p1)]) hx hb dX7_frontOf_35 hl (k := 0) rfl ex_1647.symm (by decide) rfl (fun ls hl => ?_)
        refine lv_goto (tgt := 12) hx hb dX7_frontOf_38 (by decide) ?_
        exact ih_n_1636 x_1647 f_1646 _ _ _  ⟨(om_7080e04c gc_1637 vx_1647), (om_f11f82a1 hi0_n_1636.2 vx_1647)⟩ (front_step (r := x_1644.toNatClampNeg) hi1_n_1636 ef_1646 (by have q1 := ti_cl (x := x_1641) vx_1641 (om_fc2812d4 hk0.1 hi0_n_1636.1); have q2 := ti_cl (x := p0) rfl hk0.1; have q3 := ti_cl (x := z_1634) rfl hi0_n_1636.1; omega) (by have q := kx_1645; omega) (by have q1 := ti_cl (x := x_1644) vx_1644 (om_cc8db027 hk0.1 gc_1637); have q2 := ti_cl (x := p0) rfl hk0.1; have q3 := ti_cl (x := z_1634) rfl hi0_n_1636.1; omega) (by have q1 := ti_cl (x := x_1647) vx_1647 (om_ac8c4cd7 gc_1637); have q3 := ti_cl (x := z_1634) rfl hi0_n_1636.1; omega) (by have q3 := ti_cl (x := z_1634) rfl hi0_n_1636.1; have q4 := ti_cl (x := p1) rfl hi9.1; omega)) (ms_lt hm_n_1636 (om_76844f4e vx_1647) gc_1637) hG hP hD hS (lv_sub hl [0, 1, 2, 3, 4, 5] rfl)
  exact key_n_1636 ((p1.toInt.toNat) + 1) p1 fQ _ _ _  ⟨hi9.1, om_1cb5f934⟩ (by first | assumption | omega | decide | exact front_zero) (Nat.lt_add_one _) hG hP hD hS hl
set_option maxHeartbeats 4000000 in
set_option maxRecDepth 100000 in
theorem tX7_slipBy (l : Launch) (dC : Nat → ClassId) (dI : Nat → Nat → Nat) (sz : Nat) (oM : Nat) (iM_thrown : Int32) (rM_tape : Nat) (iM_taped : Int32) (iM_size : Int32) (iM_at : Int32) (iM_end : Int32) (iM_token : Int32) (iM_whole : Int32) (iM_nameSize : Int32) (iM_fault : Int32) (iM_place : Int32) (iM_trouble : Int32) (rM_letters : Nat) (iM_failed : Int32) (iM_hasCourt : Int32) (rM_r : Nat) (fM_r : Nat → Int32) (kM_r : ClassId) (rM_fresh : Nat) (rM_told : Nat) (rM_read : Nat) (rM_st : Nat) (rM_undone : Nat) (rM_kept : Nat) (iM_undos : Int32) (iM_images : Int32) (rM_fresher : Nat) (iM_fresherSize : Int32) (iM_scale : Int32) (iM_night : Int32) (rM_heardRow : Nat) (rM_cutRow : Nat) (iM_breaths : Int32) (iM_cutMany : Int32) (iM_allBreaths : Int32) (rM_trial : Nat) (fM_trial : Nat → Int32) (kM_trial : ClassId) (rM_words : Nat) (iM_fewestBreaths : Int32) (iM_orderMany : Int32) (iM_orderSum : Int32) (iM_leastOrder : Int32) (rM_often : Nat) (iM_setMany : Int32) (iM_someOf : Int32) (iM_allOf : Int32) (iM_allWeight : Int64) (iM_enoughWeight : Int64) (iM_worthSum : Int64) (iM_firstRest : Int32) (iM_leastDrawn : Int32) (rQ : Nat) (fQ : Nat → Int32) (kQ : ClassId) (p0 : Int32) (b_iM_taped : 0 ≤ iM_taped.toInt ∧ iM_taped.toInt ≤ 900) (b_iM_size : 0 ≤ iM_size.toInt ∧ iM_size.toInt ≤ 900) (b_iM_end : 0 ≤ iM_end.toInt ∧ iM_end.toInt ≤ 900) (b_iM_failed : 0 ≤ iM_failed.toInt ∧ iM_failed.toInt ≤ 1) (b_iM_hasCourt : 0 ≤ iM_hasCourt.toInt ∧ iM_hasCourt.toInt ≤ 1) (b_iM_undos : 0 ≤ iM_undos.toInt ∧ iM_undos.toInt ≤ 16) (b_iM_images : 0 ≤ iM_images.toInt ∧ iM_images.toInt ≤ 3) (b_iM_scale : 1 ≤ iM_scale.toInt ∧ iM_scale.toInt ≤ 1296) (b_iM_breaths : 0 ≤ iM_breaths.toInt ∧ iM_breaths.toInt ≤ 399) (b_iM_cutMany : 0 ≤ iM_cutMany.toInt ∧ iM_cutMany.toInt ≤ 399) (r_R : ROk fM_r) (r_C : iM_hasCourt.toInt ≤ 0 ∨ (1 ≤ (fM_r 1).toInt ∧ 0 ≤ (fM_r 6).toInt ∧ (fM_r 6).toInt < (fM_r 1).toInt)) (r_Q : RowOk fM_r fQ)  : Met l yX7_slipBy (Cond.code yX7_slipBy cX7_slipBy 4 none :: wG) ({ frames := 1, cells := 0, slots := 0, locals := 25 }) (va_Pc [.ref oM, .ref rQ, .int p0] (Pw dC dI sz [(oc7 oM iM_thrown rM_tape iM_taped iM_size iM_at iM_end iM_token iM_whole iM_nameSize iM_fault iM_place iM_trouble rM_letters iM_failed iM_hasCourt rM_r rM_fresh rM_told rM_read rM_st rM_undone rM_kept iM_undos iM_images rM_fresher iM_fresherSize iM_scale iM_night rM_heardRow rM_cutRow iM_breaths iM_cutMany iM_allBreaths rM_trial rM_words iM_fewestBreaths iM_orderMany iM_orderSum iM_leastOrder rM_often iM_setMany iM_someOf iM_allOf iM_allWeight iM_enoughWeight iM_worthSum iM_firstRest iM_leastDrawn), (arI rM_r kM_r 287 fM_r), (arI rM_trial kM_trial 90 fM_trial), (arI rQ kQ 90 fQ)] [(kM_r, .int), (kM_trial, .int), (kQ, .int)])) (va_Qv (fun (_ : Nat) => True) (fun (_ : Nat) (t : State) => ∃ (nfM_trial : Nat → Int32), (RowOk fM_r nfM_trial) ∧ (PX7_slipBy fM_r fM_trial fQ p0 = nfM_trial) ∧ Bw dC dI (va_A [(oc7 oM iM_thrown rM_tape iM_taped iM_size iM_at iM_end iM_token iM_whole iM_nameSize iM_fault iM_place iM_trouble rM_letters iM_failed iM_hasCourt rM_r rM_fresh rM_told rM_read rM_st rM_undone rM_kept iM_undos iM_images rM_fresher iM_fresherSize iM_scale iM_night rM_heardRow rM_cutRow iM_breaths iM_cutMany iM_allBreaths rM_trial rM_words iM_fewestBreaths iM_orderMany iM_orderSum iM_leastOrder rM_often iM_setMany iM_someOf iM_allOf iM_allWeight iM_enoughWeight iM_worthSum iM_firstRest iM_leastDrawn), (arI rM_r kM_r 287 fM_r), (arI rM_trial kM_trial 90 fM_trial), (arI rQ kQ 90 fQ)] sz) [(oc7 oM iM_thrown rM_tape iM_taped iM_size iM_at iM_end iM_token iM_whole iM_nameSize iM_fault iM_place iM_trouble rM_letters iM_failed iM_hasCourt rM_r rM_fresh rM_told rM_read rM_st rM_undone rM_kept iM_undos iM_images rM_fresher iM_fresherSize iM_scale iM_night rM_heardRow rM_cutRow iM_breaths iM_cutMany iM_allBreaths rM_trial rM_words iM_fewestBreaths iM_orderMany iM_orderSum iM_leastOrder rM_often iM_setMany iM_someOf iM_allOf iM_allWeight iM_enoughWeight iM_worthSum iM_firstRest iM_leastDrawn), (arI rM_r kM_r 287 fM_r), (arI rM_trial kM_trial 90 nfM_trial), (arI rQ kQ 90 fQ)] [(kM_r, .int), (kM_trial, .int), (kQ, .int)] t) (va_A [(oc7 oM iM_thrown rM_tape iM_taped iM_size iM_at iM_end iM_token iM_whole iM_nameSize iM_fault iM_place iM_trouble rM_letters iM_failed iM_hasCourt rM_r rM_fresh rM_told rM_read rM_st rM_undone rM_kept iM_undos iM_images rM_fresher iM_fresherSize iM_scale iM_night rM_heardRow rM_cutRow iM_breaths iM_cutMany iM_allBreaths rM_trial rM_words iM_fewestBreaths iM_orderMany iM_orderSum iM_leastOrder rM_often iM_setMany iM_someOf iM_allOf iM_allWeight iM_enoughWeight iM_worthSum iM_firstRest iM_leastDrawn), (arI rM_r kM_r 287 fM_r), (arI rM_trial kM_trial 90 fM_trial), (arI rQ kQ 90 fQ)] sz)) 0 0 (va_A [(oc7 oM iM_thrown rM_tape iM_taped iM_size iM_at iM_end iM_token iM_whole iM_nameSize iM_fault iM_place iM_trouble rM_letters iM_failed iM_hasCourt rM_r rM_fresh rM_told rM_read rM_st rM_undone rM_kept iM_undos iM_images rM_fresher iM_fresherSize iM_scale iM_night rM_heardRow rM_cutRow iM_breaths iM_cutMany iM_allBreaths rM_trial rM_words iM_fewestBreaths iM_orderMany iM_orderSum iM_leastOrder rM_often iM_setMany iM_someOf iM_allOf iM_allWeight iM_enoughWeight iM_worthSum iM_firstRest iM_leastDrawn), (arI rM_r kM_r 287 fM_r), (arI rM_trial kM_trial 90 fM_trial), (arI rQ kQ 90 fQ)] sz) := by
  refine Met.ofW (cc := cX7_slipBy) (maxL := 4) (ret := none) pnX7 rfl ?_
  intro p e s m args below meth c s₁ B hml hv
  obtain ⟨rfl, hsz, hP, hK, hD0, hE⟩ := hv
  have hx := B.exec
  have hb := B.bytes
  have hr := B.returns
  have hts : ∀ w ∈ wG, w.before ([.ref oM, .ref rQ, .int p0] : List Value).toArray s = true := fun w h => atoms_spec (ws := Cond.code yX7_slipBy cX7_slipBy 4 none :: wG) B.pre w (List.mem_cons_of_mem _ h)
  have hown : s.vm.findClass RX7 = some m.cls := own_of B.named rfl
  have hlocks := B.notSynchronized
  subst hsz
  have hD := hD0.self (sz := s.heap.size)
  generalize hAe : va_A [(oc7 oM iM_thrown rM_tape iM_taped iM_size iM_at iM_end iM_token iM_whole iM_nameSize iM_fault iM_place iM_trouble rM_letters iM_failed iM_hasCourt rM_r rM_fresh rM_told rM_read rM_st rM_undone rM_kept iM_undos iM_images rM_fresher iM_fresherSize iM_scale iM_night rM_heardRow rM_cutRow iM_breaths iM_cutMany iM_allBreaths rM_trial rM_words iM_fewestBreaths iM_orderMany iM_orderSum iM_leastOrder rM_often iM_setMany iM_someOf iM_allOf iM_allWeight iM_enoughWeight iM_worthSum iM_firstRest iM_leastDrawn), (arI rM_r kM_r 287 fM_r), (arI rM_trial kM_trial 90 fM_trial), (arI rQ kQ 90 fQ)] s.heap.size = A at hD hE ⊢
  have hA : ∀ q : Nat, s.heap.size ≤ q → A q := fun q h => by rw [← hAe]; exact Or.inr h
  have hS : va_S A s.heap s.heap [] := va_S.rf
  have hl := lv_entry ([.ref oM, .ref rQ, .int p0]) (n := 4) (Nat.le_of_ble_eq_true rfl)
  rw [lg_entry_eq]
  generalize (lg_sl ([.ref oM, .ref rQ, .int p0]) ++ List.replicate (4 - (lg_sl ([.ref oM, .ref rQ, .int p0])).length) Slot.unset).toArray = ls at hl ⊢
  have hl : lv_has ls 4 [(0, .ref oM), (1, .ref rQ), (2, .int p0)] := hl
  have hG := PX7_slipBy_eq fM_r fM_trial fQ p0
  have s_slips := r_R.slips
  have s_nodes := r_R.nodes
  have s_uns := r_R.uns
  refine lv_aload_n hx hb dX7_slipBy_0 rfl (lv_at hl 1 rfl) ?_
  refine lv_iconst (v := 0) hx hb dX7_slipBy_1 (by decide) ?_
  refine lv_aload_n hx hb dX7_slipBy_2 rfl (lv_at hl 0 rfl) ?_
  refine va_get (D := (dC, dI)) (ci := 7) (v := .ref rM_trial) (C := RX7) (T := TX7) (N := 48) hx hb hts inX7 hown hK hP 0 rfl rfl 33 (by decide) (hts _ wd_167) (fun _ h9 => h9) rfl dX7_slipBy_3 ?_
  refine lv_iconst (v := 0) hx hb dX7_slipBy_6 (by decide) ?_
  refine lv_bipush (v := 90) hx hb dX7_slipBy_7 (by decide) ?_
  have hFc := va_free (wc := [(arI rQ kQ 90 fQ), (arI rM_trial kM_trial 90 fM_trial)]) hD hS hA [3, 2] rfl
  refine va_callv (va_runS (As := [.ref rQ, .int 0, .ref rM_trial, .int 0, .int 90]) (rest := []) ⟨hx, hb, hml, hown, hts⟩ (tX7_copy_90_90 l dC dI _ rQ fQ kQ rM_trial fM_trial kM_trial 0 0 90 ⟨(om_b1de7dbe kc_0), (om_b1de7dbe kc_0), (om_34f60646 kc_90)⟩ (om_3b9d1022 kc_0 kc_90) (om_3b9d1022 kc_0 kc_90)) (va_cwS 5 hts (wd_S wd_475 wd_476 wd_5 (wd_c wd_477)) rfl rfl rfl ds_yX7_copy_5 ⟨Nat.le_of_ble_eq_true rfl, Nat.le_of_ble_eq_true rfl⟩) ⟨Pw.fb, fun U hU hW => Pw.to (hP.sub [3, 2] rfl) (hD.sub [3, 2] (by decide) rfl) (hK.sub [2, 1] rfl) hE hS hFc hU hW⟩ rfl rfl hl.1 rfl (lv_room (Nat.le_of_ble_eq_true rfl)) dX7_slipBy_9 ⟨Nat.le_of_ble_eq_true rfl, Nat.le_of_ble_eq_true rfl⟩) hS (fun q _ h => hFc q h) hFc (fun u t H locs ht hvm hw hB hz1 hk1 hS => ?_)
  refine ex_1_1 hB (fun f_1667 e_f_1667_0 hB => ?_)
  obtain ⟨hP, hD, hK⟩ := Bw.go (ws' := [(oc7 oM iM_thrown rM_tape iM_taped iM_size iM_at iM_end iM_token iM_whole iM_nameSize iM_fault iM_place iM_trouble rM_letters iM_failed iM_hasCourt rM_r rM_fresh rM_told rM_read rM_st rM_undone rM_kept iM_undos iM_images rM_fresher iM_fresherSize iM_scale iM_night rM_heardRow rM_cutRow iM_breaths iM_cutMany iM_allBreaths rM_trial rM_words iM_fewestBreaths iM_orderMany iM_orderSum iM_leastOrder rM_often iM_setMany iM_someOf iM_allOf iM_allWeight iM_enoughWeight iM_worthSum iM_firstRest iM_leastDrawn), (arI rM_r kM_r 287 fM_r), (arI rQ kQ 90 fQ), (arI rM_trial kM_trial 90 f_1667)]) (tys' := [(kM_r, .int), (kQ, .int), (kM_trial, .int)]) hB rfl ht hvm hP hD hK [3, 2] [0, 1] rfl (by decide) (by decide) [0] hk1 hFc rfl rfl rfl
  clear hz1 hk1 hvm ht hB
  have r_f_1667 : RowOk fM_r f_1667 := RowOk.copy r_R r_Q e_f_1667_0
  have hG := hG.trans (lt_eq (CopyOk.fn e_f_1667_0).symm)
  refine lv_iconst (v := 0) hx hb dX7_slipBy_12 (by decide) ?_
  refine lv_istore_n (lv' := [(3, .int 0), (0, .ref oM), (1, .ref rQ), (2, .int p0)]) hx hb dX7_slipBy_13 rfl hl (by decide) rfl (fun ls hl => ?_)
  have hl := lv_sub hl (l' := [(3, .int 0), (0, .ref oM), (1, .ref rQ), (2, .int p0)]) [0, 1, 2, 3] rfl
  have key_n_1670 : ∀ (n_1670 : Nat) (z_1668 : Int32) (f_1669 : Nat → Int32) (H : Heap) (locs : List Loc) (ls : Array Slot), (0 ≤ z_1668.toInt ∧ z_1668.toInt ≤ 4) → (RowOk fM_r f_1669) → (4 - z_1668.toInt).toNat < n_1670 → (PX7_slipBy fM_r fM_trial fQ p0 = HX7_slipBy_0 fM_r p0 n_1670 z_1668 f_1669) → va_P (dC, dI) vwCl [(oc7 oM iM_thrown rM_tape iM_taped iM_size iM_at iM_end iM_token iM_whole iM_nameSize iM_fault iM_place iM_trouble rM_letters iM_failed iM_hasCourt rM_r rM_fresh rM_told rM_read rM_st rM_undone rM_kept iM_undos iM_images rM_fresher iM_fresherSize iM_scale iM_night rM_heardRow rM_cutRow iM_breaths iM_cutMany iM_allBreaths rM_trial rM_words iM_fewestBreaths iM_orderMany iM_orderSum iM_leastOrder rM_often iM_setMany iM_someOf iM_allOf iM_allWeight iM_enoughWeight iM_worthSum iM_firstRest iM_leastDrawn), (arI rM_r kM_r 287 fM_r), (arI rQ kQ 90 fQ), (arI rM_trial kM_trial 90 f_1669)] H → va_D A [(oc7 oM iM_thrown rM_tape iM_taped iM_size iM_at iM_end iM_token iM_whole iM_nameSize iM_fault iM_place iM_trouble rM_letters iM_failed iM_hasCourt rM_r rM_fresh rM_told rM_read rM_st rM_undone rM_kept iM_undos iM_images rM_fresher iM_fresherSize iM_scale iM_night rM_heardRow rM_cutRow iM_breaths iM_cutMany iM_allBreaths rM_trial rM_words iM_fewestBreaths iM_orderMany iM_orderSum iM_leastOrder rM_often iM_setMany iM_someOf iM_allOf iM_allWeight iM_enoughWeight iM_worthSum iM_firstRest iM_leastDrawn), (arI rM_r kM_r 287 fM_r), (arI rQ kQ 90 fQ), (arI rM_trial kM_trial 90 f_1669)] → va_S A s.heap H locs → lv_has ls 4 [(3, .int z_1668), (0, .ref oM), (1, .ref rQ), (2, .int p0)] → W p l e (headSpec (Cond.code yX7_slipBy cX7_slipBy 4 none :: wG) ({ frames := 1, cells := 0, slots := 0, locals := 25 })).room s m ([.ref oM, .ref rQ, .int p0] : List Value).toArray below meth c H locs 0 0 (MQ below (va_Qv (fun (_ : Nat) => True) (fun (_ : Nat) (t : State) => ∃ (nfM_trial : Nat → Int32), (RowOk fM_r nfM_trial) ∧ (PX7_slipBy fM_r fM_trial fQ p0 = nfM_trial) ∧ Bw dC dI A [(oc7 oM iM_thrown rM_tape iM_taped iM_size iM_at iM_end iM_token iM_whole iM_nameSize iM_fault iM_place iM_trouble rM_letters iM_failed iM_hasCourt rM_r rM_fresh rM_told rM_read rM_st rM_undone rM_kept iM_undos iM_images rM_fresher iM_fresherSize iM_scale iM_night rM_heardRow rM_cutRow iM_breaths iM_cutMany iM_allBreaths rM_trial rM_words iM_fewestBreaths iM_orderMany iM_orderSum iM_leastOrder rM_often iM_setMany iM_someOf iM_allOf iM_allWeight iM_enoughWeight iM_worthSum iM_firstRest iM_leastDrawn), (arI rM_r kM_r 287 fM_r), (arI rM_trial kM_trial 90 nfM_trial), (arI rQ kQ 90 fQ)] [(kM_r, .int), (kM_trial, .int), (kQ, .int)] t) A) ([.ref oM, .ref rQ, .int p0] : List Value).toArray s 0 0 A) (F0 m 14 ls []) := by
    intro n_1670
    induction n_1670 with
    | zero => intro z_1668 f_1669 H locs ls hi0_n_1670 hi1_n_1670 hm; exact absurd hm (Nat.not_lt_zero _)
    | succ n_1670 ih_n_1670 =>
      intro z_1668 f_1669 H locs ls hi0_n_1670 hi1_n_1670 hm_n_1670 hG hP hD hS hl
      have hG := hG.trans (HX7_slipBy_0_eq _ _ _ _ _)
      refine lv_iload_n hx hb dX7_slipBy_14 rfl (lv_at hl 0 rfl) ?_
      refine lv_aload_n hx hb dX7_slipBy_15 rfl (lv_at hl 1 rfl) ?_
      refine va_get (D := (dC, dI)) (ci := 7) (v := .ref rM_r) (C := RX7) (T := TX7) (N := 48) hx hb hts inX7 hown hK hP 0 rfl rfl 15 (by decide) (hts _ wd_155) (fun _ h9 => h9) rfl dX7_slipBy_16 ?_
      refine lv_iconst (v := 3) hx hb dX7_slipBy_19 (by decide) ?_
      refine va_iald hx hb hK hP 1 0 rfl rfl (by unfold vp_in; decide) dX7_slipBy_20 ?_
      refine lv_topi (fun x_1671 ex_1671 => ?_)
      have hG := hG.trans (lt_eq ex_1671)
      have cx_1671 : (fM_r 3).toInt = x_1671.toInt := congrArg Int32.toInt (show fM_r 3 = x_1671 from ex_1671.symm)
      have sx_1671 := r_R.uns
      refine lv_icmp_ge (tgt := 70) hx hb dX7_slipBy_21 (by decide) (fun c_1672 => ?_) (fun c_1672 => ?_)
      · skip
        have hG := hG.trans (if_pos c_1672)
        have gc_1672 := ti_le c_1672 rfl rfl
        exact wq_v hx hb hr 0 trivial (fun t ht hW => ⟨f_1669, (by first | assumption | omega | decide), hG, Bw.to (hP.sub [0, 1, 3, 2] rfl) (hD.sub [0, 1, 3, 2] (by decide) rfl) (hK.sub [0, 2, 1] rfl) ht hW⟩) hS dX7_slipBy_70 hlocks
      · skip
        have hG := hG.trans (if_neg c_1672)
        have gc_1672 := ti_nle c_1672 rfl rfl
        refine lv_iload_n hx hb dX7_slipBy_24 rfl (lv_at hl 3 rfl) ?_
        refine lv_iload_n hx hb dX7_slipBy_25 rfl (lv_at hl 0 rfl) ?_
        have hFc : ∀ q, va_A [] _ q → A q := fun q h => hA q (Nat.le_trans hS.1 (va_nilA h))
        refine va_calli (va_runS (As := [.int p0, .int z_1668]) (rest := []) ⟨hx, hb, hml, hown, hts⟩ (tX7_hasBit l dC dI _ p0 z_1668 ) (va_cwS 2 hts (wd_S wd_968 wd_969 wd_5 (wd_c wd_970)) rfl rfl rfl ds_yX7_hasBit_2 ⟨Nat.le_of_ble_eq_true rfl, Nat.le_of_ble_eq_true rfl⟩) ⟨Pw.fb, fun U hU hW => Pn.to hK hE hS hA hU hW⟩ rfl rfl hl.1 rfl (lv_room (Nat.le_of_ble_eq_true rfl)) dX7_slipBy_26 ⟨Nat.le_of_ble_eq_true rfl, Nat.le_of_ble_eq_true rfl⟩) hS (fun q _ h => hFc q h) hFc (fun r u t H locs ht hvm hw hB hz1 hk1 hS => ?_)
        obtain ⟨hP, hD, hK⟩ := Bw.same ht hvm hP hD hK hk1 hFc
        clear hz1 hk1 hvm ht hB
        have hq9 := hw.2
        have hw := hw.1
        obtain ⟨x_1673, rfl⟩ : ∃ z, z = r := ⟨_, rfl⟩
        have hq_x_1673 := hq9
        have hG := hG.trans (lt_eq hq_x_1673.symm)
        have bx_1673 := hw.1
        have dx_1673 := bz_tb bx_1673
        refine lv_if_eq (tgt := 64) hx hb dX7_slipBy_29 (by decide) (fun c_1674 => ?_) (fun c_1674 => ?_)
        · skip
          have hG := hG.trans (if_pos c_1674)
          have gc_1674 := ti_eq c_1674 rfl kc_0
          obtain ⟨x_1675, ex_1675⟩ : ∃ z : Int32, z = z_1668 + Int32.ofInt 1 := ⟨_, rfl⟩
          have hG := hG.trans (lt_eq ex_1675)
          have vx_1675 : x_1675.toInt = z_1668.toInt + 1 := ti_add (y := 1) ex_1675 rfl kc_1 (om_4e4fce7e hi0_n_1670.1) (om_bae2951a hi0_n_1670.2)
          refine lv_iinc (v := x_1675) (lv' := [(3, .int x_1675), (0, .ref oM), (1, .ref rQ), (2, .int p0)]) hx hb dX7_slipBy_64 hl (k := 0) rfl ex_1675.symm (by decide) rfl (fun ls hl => ?_)
          refine lv_goto (tgt := 14) hx hb dX7_slipBy_67 (by decide) ?_
          exact ih_n_1670 x_1675 f_1669 _ _ _  ⟨(om_83b90de5 hi0_n_1670.1 vx_1675), (om_8267bec5 s_uns.2 cx_1671 gc_1672 vx_1675)⟩ (by first | assumption | omega | decide) (ms_lt hm_n_1670 (om_ed22490e vx_1675) (om_e4be4046 s_uns.2 cx_1671 gc_1672)) hG hP hD hS (lv_sub hl [0, 1, 2, 3] rfl)
        · skip
          have hG := hG.trans (if_neg c_1674)
          have gc_1674 := ti_ne c_1674 rfl kc_0
          refine lv_aload_n hx hb dX7_slipBy_32 rfl (lv_at hl 1 rfl) ?_
          refine va_get (D := (dC, dI)) (ci := 7) (v := .ref rM_trial) (C := RX7) (T := TX7) (N := 48) hx hb hts inX7 hown hK hP 0 rfl rfl 33 (by decide) (hts _ wd_167) (fun _ h9 => h9) rfl dX7_slipBy_33 ?_
          refine lv_bipush (v := 72) hx hb dX7_slipBy_36 (by decide) ?_
          refine lv_aload_n hx hb dX7_slipBy_38 rfl (lv_at hl 1 rfl) ?_
          refine va_get (D := (dC, dI)) (ci := 7) (v := .ref rM_r) (C := RX7) (T := TX7) (N := 48) hx hb hts inX7 hown hK hP 0 rfl rfl 15 (by decide) (hts _ wd_155) (fun _ h9 => h9) rfl dX7_slipBy_39 ?_
          refine lv_bipush (v := 117) hx hb dX7_slipBy_42 (by decide) ?_
          refine lv_iconst (v := 2) hx hb dX7_slipBy_44 (by decide) ?_
          refine lv_iload_n hx hb dX7_slipBy_45 rfl (lv_at hl 0 rfl) ?_
          refine lv_imul hx hb dX7_slipBy_46 ?_
          refine lv_topi (fun x_1676 ex_1676 => ?_)
          have hG := hG.trans (lt_eq ex_1676)
          have vx_1676 : x_1676.toInt = 2 * z_1668.toInt := ti_mul ex_1676 kc_2 rfl (om_c5b3d97d hi0_n_1670.1) (om_e31e6d0e hi0_n_1670.2)
          refine lv_iadd hx hb dX7_slipBy_47 ?_
          refine lv_topi (fun x_1677 ex_1677 => ?_)
          have hG := hG.trans (lt_eq ex_1677)
          have vx_1677 : x_1677.toInt = 2 * z_1668.toInt + 117 := om_67044d60 (ti_add ex_1677 kc_117 vx_1676 (om_6bb57472 hi0_n_1670.1) (om_12bf95c9 hi0_n_1670.2))
          refine va_iald hx hb hK hP 1 0 rfl rfl (ti_in vx_1677 (om_c8571833 hi0_n_1670.1) (om_f21b86dc hi0_n_1670.2)) dX7_slipBy_48 ?_
          refine lv_topi (fun x_1678 ex_1678 => ?_)
          have hG := hG.trans (lt_eq ex_1678)
          have kx_1678 : (fM_r x_1677.toNatClampNeg).toInt = x_1678.toInt := by rw [ex_1678]
          have cx_1678 : (fM_r (117 + 2 * z_1668.toNatClampNeg)).toInt = x_1678.toInt := by rw [show 117 + 2 * z_1668.toNatClampNeg = x_1677.toNatClampNeg from (om_dbb1b72e (ti_cl (x := z_1668) rfl hi0_n_1670.1) (ti_cl (x := x_1677) vx_1677 (om_c8571833 hi0_n_1670.1)))]; exact kx_1678
          have sx_1678 : 0 ≤ x_1678.toInt ∧ x_1678.toInt ≤ 17 := row_dn r_R (om_05aee768 (ti_cl (x := z_1668) rfl hi0_n_1670.1) s_uns.2 cx_1671 gc_1672) (om_2b5817db (ti_cl (x := z_1668) rfl hi0_n_1670.1)) cx_1678
          refine lv_iadd hx hb dX7_slipBy_49 ?_
          refine lv_topi (fun x_1679 ex_1679 => ?_)
          have hG := hG.trans (lt_eq ex_1679)
          have vx_1679 : x_1679.toInt = x_1678.toInt + 72 := om_2d0716db (ti_add ex_1679 kc_72 rfl (om_7e97233d sx_1678.1) (om_226ecc05 sx_1678.2))
          refine lv_aload_n hx hb dX7_slipBy_50 rfl (lv_at hl 1 rfl) ?_
          refine va_get (D := (dC, dI)) (ci := 7) (v := .ref rM_r) (C := RX7) (T := TX7) (N := 48) hx hb hts inX7 hown hK hP 0 rfl rfl 15 (by decide) (hts _ wd_155) (fun _ h9 => h9) rfl dX7_slipBy_51 ?_
          refine lv_bipush (v := 117) hx hb dX7_slipBy_54 (by decide) ?_
          refine lv_iconst (v := 2) hx hb dX7_slipBy_56 (by decide) ?_
          refine lv_iload_n hx hb dX7_slipBy_57 rfl (lv_at hl 0 rfl) ?_
          refine lv_imul hx hb dX7_slipBy_58 ?_
          refine lv_topi (fun x_1680 ex_1680 => ?_)
          have hG := hG.trans (lt_eq ex_1680)
          have vx_1680 : x_1680.toInt = 2 * z_1668.toInt := ti_mul ex_1680 kc_2 rfl (om_c5b3d97d hi0_n_1670.1) (om_e31e6d0e hi0_n_1670.2)
          refine lv_iadd hx hb dX7_slipBy_59 ?_
          refine lv_topi (fun x_1681 ex_1681 => ?_)
          have hG := hG.trans (lt_eq ex_1681)
          have vx_1681 : x_1681.toInt = 2 * z_1668.toInt + 117 := om_67044d60 (ti_add ex_1681 kc_117 vx_1680 (om_6bb57472 hi0_n_1670.1) (om_12bf95c9 hi0_n_1670.2))
          refine lv_iconst (v := 1) hx hb dX7_slipBy_60 (by decide) ?_
          refine lv_iadd hx hb dX7_slipBy_61 ?_
          refine lv_topi (fun x_1682 ex_1682 => ?_)
          have hG := hG.trans (lt_eq ex_1682)
          have vx_1682 : x_1682.toInt = 2 * z_1668.toInt + 118 := om_c314a240 (ti_add ex_1682 vx_1681 kc_1 (om_eb9f82f8 hi0_n_1670.1) (om_5716cb89 hi0_n_1670.2))
          refine va_iald hx hb hK hP 1 0 rfl rfl (ti_in vx_1682 (om_8734c1ec hi0_n_1670.1) (om_53888998 hi0_n_1670.2)) dX7_slipBy_62 ?_
          refine lv_topi (fun x_1683 ex_1683 => ?_)
          have hG := hG.trans (lt_eq ex_1683)
          have kx_1683 : (fM_r x_1682.toNatClampNeg).toInt = x_1683.toInt := by rw [ex_1683]
          have cx_1683 : (fM_r (118 + 2 * z_1668.toNatClampNeg)).toInt = x_1683.toInt := by rw [show 118 + 2 * z_1668.toNatClampNeg = x_1682.toNatClampNeg from (om_634dd1bd (ti_cl (x := z_1668) rfl hi0_n_1670.1) (ti_cl (x := x_1682) vx_1682 (om_8734c1ec hi0_n_1670.1)))]; exact kx_1683
          refine va_iast hx hb hK hP hD hS 3 2 rfl rfl (ti_in vx_1679 (om_2ad8b1ab sx_1678.1) (om_bc1d2a0e sx_1678.2)) dX7_slipBy_63 (fun H locs hP hD hS => ?_)
          obtain ⟨f_1684, ef_1684⟩ : ∃ g : Nat → Int32, g = upd f_1669 x_1679.toNatClampNeg x_1683 := ⟨_, rfl⟩
          rw [← ef_1684] at hP hD
          have hG := hG.trans (lt_eq ef_1684)
          obtain ⟨hP, hD⟩ := wl2 (ws' := [(oc7 oM iM_thrown rM_tape iM_taped iM_size iM_at iM_end iM_token iM_whole iM_nameSize iM_fault iM_place iM_trouble rM_letters iM_failed iM_hasCourt rM_r rM_fresh rM_told rM_read rM_st rM_undone rM_kept iM_undos iM_images rM_fresher iM_fresherSize iM_scale iM_night rM_heardRow rM_cutRow iM_breaths iM_cutMany iM_allBreaths rM_trial rM_words iM_fewestBreaths iM_orderMany iM_orderSum iM_leastOrder rM_often iM_setMany iM_someOf iM_allOf iM_allWeight iM_enoughWeight iM_worthSum iM_firstRest iM_leastDrawn), (arI rM_r kM_r 287 fM_r), (arI rQ kQ 90 fQ), (arI rM_trial kM_trial 90 f_1684)]) hP hD rfl
          have r_f_1684 : RowOk fM_r f_1684 := RowOk.hi r_R hi1_n_1670 ef_1684 (by have q9 := ti_cl (x := x_1679) vx_1679 (om_2ad8b1ab sx_1678.1); omega)
          obtain ⟨x_1685, ex_1685⟩ : ∃ z : Int32, z = z_1668 + Int32.ofInt 1 := ⟨_, rfl⟩
          have hG := hG.trans (lt_eq ex_1685)
          have vx_1685 : x_1685.toInt = z_1668.toInt + 1 := ti_add (y := 1) ex_1685 rfl kc_1 (om_4e4fce7e hi0_n_1670.1) (om_bae2951a hi0_n_1670.2)
          refine lv_iinc (v := x_1685) (lv' := [(3, .int x_1685), (0, .ref oM), (1, .ref rQ), (2, .int p0)]) hx hb dX7_slipBy_64 hl (k := 0) rfl ex_1685.symm (by decide) rfl (fun ls hl => ?_)
          refine lv_goto (tgt := 14) hx hb dX7_slipBy_67 (by decide) ?_
          exact ih_n_1670 x_1685 f_1684 _ _ _  ⟨(om_83b90de5 hi0_n_1670.1 vx_1685), (om_8267bec5 s_uns.2 cx_1671 gc_1672 vx_1685)⟩ (by first | assumption | omega | decide) (ms_lt hm_n_1670 (om_ed22490e vx_1685) (om_e4be4046 s_uns.2 cx_1671 gc_1672)) hG hP hD hS (lv_sub hl [0, 1, 2, 3] rfl)
  exact key_n_1670 (((4 - (0 : Int32).toInt).toNat) + 1) 0 f_1667 _ _ _  ⟨(om_b1de7dbe kc_0), (om_bebe011a kc_0)⟩ (by first | assumption | omega | decide) (Nat.lt_add_one _) hG hP hD hS hl
set_option maxHeartbeats 4000000 in
set_option maxRecDepth 100000 in
theorem tX7_throneIf (l : Launch) (dC : Nat → ClassId) (dI : Nat → Nat → Nat) (sz : Nat) (oM : Nat) (iM_thrown : Int32) (rM_tape : Nat) (iM_taped : Int32) (iM_size : Int32) (iM_at : Int32) (iM_end : Int32) (iM_token : Int32) (iM_whole : Int32) (iM_nameSize : Int32) (iM_fault : Int32) (iM_place : Int32) (iM_trouble : Int32) (rM_letters : Nat) (iM_failed : Int32) (iM_hasCourt : Int32) (rM_r : Nat) (fM_r : Nat → Int32) (kM_r : ClassId) (rM_fresh : Nat) (rM_told : Nat) (fM_told : Nat → Int32) (kM_told : ClassId) (rM_read : Nat) (rM_st : Nat) (fM_st : Nat → Int32) (kM_st : ClassId) (rM_undone : Nat) (rM_kept : Nat) (iM_undos : Int32) (iM_images : Int32) (rM_fresher : Nat) (iM_fresherSize : Int32) (iM_scale : Int32) (iM_night : Int32) (rM_heardRow : Nat) (rM_cutRow : Nat) (iM_breaths : Int32) (iM_cutMany : Int32) (iM_allBreaths : Int32) (rM_trial : Nat) (fM_trial : Nat → Int32) (kM_trial : ClassId) (rM_words : Nat) (iM_fewestBreaths : Int32) (iM_orderMany : Int32) (iM_orderSum : Int32) (iM_leastOrder : Int32) (rM_often : Nat) (iM_setMany : Int32) (iM_someOf : Int32) (iM_allOf : Int32) (iM_allWeight : Int64) (iM_enoughWeight : Int64) (iM_worthSum : Int64) (iM_firstRest : Int32) (iM_leastDrawn : Int32) (p0 : Int32) (p1 : Int32) (b_iM_taped : 0 ≤ iM_taped.toInt ∧ iM_taped.toInt ≤ 900) (b_iM_size : 0 ≤ iM_size.toInt ∧ iM_size.toInt ≤ 900) (b_iM_end : 0 ≤ iM_end.toInt ∧ iM_end.toInt ≤ 900) (b_iM_failed : 0 ≤ iM_failed.toInt ∧ iM_failed.toInt ≤ 1) (b_iM_hasCourt : 0 ≤ iM_hasCourt.toInt ∧ iM_hasCourt.toInt ≤ 1) (b_iM_undos : 0 ≤ iM_undos.toInt ∧ iM_undos.toInt ≤ 16) (b_iM_images : 0 ≤ iM_images.toInt ∧ iM_images.toInt ≤ 3) (b_iM_scale : 1 ≤ iM_scale.toInt ∧ iM_scale.toInt ≤ 1296) (b_iM_breaths : 0 ≤ iM_breaths.toInt ∧ iM_breaths.toInt ≤ 399) (b_iM_cutMany : 0 ≤ iM_cutMany.toInt ∧ iM_cutMany.toInt ≤ 399) (r_R : ROk fM_r) (r_C : iM_hasCourt.toInt ≤ 0 ∨ (1 ≤ (fM_r 1).toInt ∧ 0 ≤ (fM_r 6).toInt ∧ (fM_r 6).toInt < (fM_r 1).toInt)) (r_st : RowOk fM_r fM_st) (r_told : RowOk fM_r fM_told) (r_wst : WorOk fM_st) (hth : 0 ≤ (fM_r 6).toInt ∧ (fM_r 6).toInt < (fM_r 1).toInt) : Met l yX7_throneIf (Cond.code yX7_throneIf cX7_throneIf 4 (some .int) :: wG) ({ frames := 22, cells := 0, slots := 0, locals := 585 }) (va_Pc [.ref oM, .int p0, .int p1] (Pw dC dI sz [(oc7 oM iM_thrown rM_tape iM_taped iM_size iM_at iM_end iM_token iM_whole iM_nameSize iM_fault iM_place iM_trouble rM_letters iM_failed iM_hasCourt rM_r rM_fresh rM_told rM_read rM_st rM_undone rM_kept iM_undos iM_images rM_fresher iM_fresherSize iM_scale iM_night rM_heardRow rM_cutRow iM_breaths iM_cutMany iM_allBreaths rM_trial rM_words iM_fewestBreaths iM_orderMany iM_orderSum iM_leastOrder rM_often iM_setMany iM_someOf iM_allOf iM_allWeight iM_enoughWeight iM_worthSum iM_firstRest iM_leastDrawn), (arI rM_r kM_r 287 fM_r), (arI rM_told kM_told 90 fM_told), (arI rM_st kM_st 90 fM_st), (arI rM_trial kM_trial 90 fM_trial)] [(kM_r, .int), (kM_told, .int), (kM_st, .int), (kM_trial, .int)])) (va_Qi (fun (r : Int32) (_ : Nat) => True ∧ True) (fun (_ : Nat) (t : State) => ∃ (nfM_trial : Nat → Int32), Bw dC dI (va_A [(oc7 oM iM_thrown rM_tape iM_taped iM_size iM_at iM_end iM_token iM_whole iM_nameSize iM_fault iM_place iM_trouble rM_letters iM_failed iM_hasCourt rM_r rM_fresh rM_told rM_read rM_st rM_undone rM_kept iM_undos iM_images rM_fresher iM_fresherSize iM_scale iM_night rM_heardRow rM_cutRow iM_breaths iM_cutMany iM_allBreaths rM_trial rM_words iM_fewestBreaths iM_orderMany iM_orderSum iM_leastOrder rM_often iM_setMany iM_someOf iM_allOf iM_allWeight iM_enoughWeight iM_worthSum iM_firstRest iM_leastDrawn), (arI rM_r kM_r 287 fM_r), (arI rM_told kM_told 90 fM_told), (arI rM_st kM_st 90 fM_st), (arI rM_trial kM_trial 90 fM_trial)] sz) [(oc7 oM iM_thrown rM_tape iM_taped iM_size iM_at iM_end iM_token iM_whole iM_nameSize iM_fault iM_place iM_trouble rM_letters iM_failed iM_hasCourt rM_r rM_fresh rM_told rM_read rM_st rM_undone rM_kept iM_undos iM_images rM_fresher iM_fresherSize iM_scale iM_night rM_heardRow rM_cutRow iM_breaths iM_cutMany iM_allBreaths rM_trial rM_words iM_fewestBreaths iM_orderMany iM_orderSum iM_leastOrder rM_often iM_setMany iM_someOf iM_allOf iM_allWeight iM_enoughWeight iM_worthSum iM_firstRest iM_leastDrawn), (arI rM_r kM_r 287 fM_r), (arI rM_told kM_told 90 fM_told), (arI rM_st kM_st 90 fM_st), (arI rM_trial kM_trial 90 nfM_trial)] [(kM_r, .int), (kM_told, .int), (kM_st, .int), (kM_trial, .int)] t) (va_A [(oc7 oM iM_thrown rM_tape iM_taped iM_size iM_at iM_end iM_token iM_whole iM_nameSize iM_fault iM_place iM_trouble rM_letters iM_failed iM_hasCourt rM_r rM_fresh rM_told rM_read rM_st rM_undone rM_kept iM_undos iM_images rM_fresher iM_fresherSize iM_scale iM_night rM_heardRow rM_cutRow iM_breaths iM_cutMany iM_allBreaths rM_trial rM_words iM_fewestBreaths iM_orderMany iM_orderSum iM_leastOrder rM_often iM_setMany iM_someOf iM_allOf iM_allWeight iM_enoughWeight iM_worthSum iM_firstRest iM_leastDrawn), (arI rM_r kM_r 287 fM_r), (arI rM_told kM_told 90 fM_told), (arI rM_st kM_st 90 fM_st), (arI rM_trial kM_trial 90 fM_trial)] sz)) 0 0 (va_A [(oc7 oM iM_thrown rM_tape iM_taped iM_size iM_at iM_end iM_token iM_whole iM_nameSize iM_fault iM_place iM_trouble rM_letters iM_failed iM_hasCourt rM_r rM_fresh rM_told rM_read rM_st rM_undone rM_kept iM_undos iM_images rM_fresher iM_fresherSize iM_scale iM_night rM_heardRow rM_cutRow iM_breaths iM_cutMany iM_allBreaths rM_trial rM_words iM_fewestBreaths iM_orderMany iM_orderSum iM_leastOrder rM_often iM_setMany iM_someOf iM_allOf iM_allWeight iM_enoughWeight iM_worthSum iM_firstRest iM_leastDrawn), (arI rM_r kM_r 287 fM_r), (arI rM_told kM_told 90 fM_told), (arI rM_st kM_st 90 fM_st), (arI rM_trial kM_trial 90 fM_trial)] sz) := by
  refine Met.ofW (cc := cX7_throneIf) (maxL := 4) (ret := (some .int)) pnX7 rfl ?_
  intro p e s m args below meth c s₁ B hml hv
  obtain ⟨rfl, hsz, hP, hK, hD0, hE⟩ := hv
  have hx := B.exec
  have hb := B.bytes
  have hr := B.returns
  have hts : ∀ w ∈ wG, w.before ([.ref oM, .int p0, .int p1] : List Value).toArray s = true := fun w h => atoms_spec (ws := Cond.code yX7_throneIf cX7_throneIf 4 (some .int) :: wG) B.pre w (List.mem_cons_of_mem _ h)
  have hown : s.vm.findClass RX7 = some m.cls := own_of B.named rfl
  have hlocks := B.notSynchronized
  subst hsz
  have hD := hD0.self (sz := s.heap.size)
  generalize hAe : va_A [(oc7 oM iM_thrown rM_tape iM_taped iM_size iM_at iM_end iM_token iM_whole iM_nameSize iM_fault iM_place iM_trouble rM_letters iM_failed iM_hasCourt rM_r rM_fresh rM_told rM_read rM_st rM_undone rM_kept iM_undos iM_images rM_fresher iM_fresherSize iM_scale iM_night rM_heardRow rM_cutRow iM_breaths iM_cutMany iM_allBreaths rM_trial rM_words iM_fewestBreaths iM_orderMany iM_orderSum iM_leastOrder rM_often iM_setMany iM_someOf iM_allOf iM_allWeight iM_enoughWeight iM_worthSum iM_firstRest iM_leastDrawn), (arI rM_r kM_r 287 fM_r), (arI rM_told kM_told 90 fM_told), (arI rM_st kM_st 90 fM_st), (arI rM_trial kM_trial 90 fM_trial)] s.heap.size = A at hD hE ⊢
  have hA : ∀ q : Nat, s.heap.size ≤ q → A q := fun q h => by rw [← hAe]; exact Or.inr h
  have hS : va_S A s.heap s.heap [] := va_S.rf
  have hl := lv_entry ([.ref oM, .int p0, .int p1]) (n := 4) (Nat.le_of_ble_eq_true rfl)
  rw [lg_entry_eq]
  generalize (lg_sl ([.ref oM, .int p0, .int p1]) ++ List.replicate (4 - (lg_sl ([.ref oM, .int p0, .int p1])).length) Slot.unset).toArray = ls at hl ⊢
  have hl : lv_has ls 4 [(0, .ref oM), (1, .int p0), (2, .int p1)] := hl
  have s_slips := r_R.slips
  have s_nodes := r_R.nodes
  have s_uns := r_R.uns
  refine lv_aload_n hx hb dX7_throneIf_0 rfl (lv_at hl 0 rfl) ?_
  refine va_get (D := (dC, dI)) (ci := 7) (v := .ref rM_st) (C := RX7) (T := TX7) (N := 48) hx hb hts inX7 hown hK hP 0 rfl rfl 19 (by decide) (hts _ wd_159) (fun _ h9 => h9) rfl dX7_throneIf_1 ?_
  refine lv_iconst (v := 0) hx hb dX7_throneIf_4 (by decide) ?_
  refine lv_aload_n hx hb dX7_throneIf_5 rfl (lv_at hl 0 rfl) ?_
  refine va_get (D := (dC, dI)) (ci := 7) (v := .ref rM_trial) (C := RX7) (T := TX7) (N := 48) hx hb hts inX7 hown hK hP 0 rfl rfl 33 (by decide) (hts _ wd_167) (fun _ h9 => h9) rfl dX7_throneIf_6 ?_
  refine lv_iconst (v := 0) hx hb dX7_throneIf_9 (by decide) ?_
  refine lv_bipush (v := 90) hx hb dX7_throneIf_10 (by decide) ?_
  have hMs := ml_of hD [false, false, false, true, true] (wc := [(arI rM_st kM_st 90 fM_st), (arI rM_trial kM_trial 90 fM_trial)]) rfl
  have hFc := va_freeM hD hS hA _ hMs
  refine va_callv (va_runS (As := [.ref rM_st, .int 0, .ref rM_trial, .int 0, .int 90]) (rest := []) ⟨hx, hb, hml, hown, hts⟩ (tX7_copy_90_90 l dC dI _ rM_st fM_st kM_st rM_trial fM_trial kM_trial 0 0 90 ⟨(om_b1de7dbe kc_0), (om_b1de7dbe kc_0), (om_34f60646 kc_90)⟩ (om_3b9d1022 kc_0 kc_90) (om_3b9d1022 kc_0 kc_90)) (va_cwS 5 hts (wd_S wd_475 wd_476 wd_5 (wd_c wd_477)) rfl rfl rfl ds_yX7_copy_5 ⟨Nat.le_of_ble_eq_true rfl, Nat.le_of_ble_eq_true rfl⟩) ⟨Pw.fb, fun U hU hW => Pw.to (hP.ms _ hMs) (hD.ms _ hMs) (hK.ms [false, false, true, true] rfl) hE hS hFc hU hW⟩ rfl rfl hl.1 rfl (lv_room (Nat.le_of_ble_eq_true rfl)) dX7_throneIf_12 ⟨Nat.le_of_ble_eq_true rfl, Nat.le_of_ble_eq_true rfl⟩) hS (fun q _ h => hFc q h) hFc (fun u t H locs ht hvm hw hB hz1 hk1 hS => ?_)
  refine ex_1_1 hB (fun f_1703 e_f_1703_0 hB => ?_)
  obtain ⟨hP, hD⟩ := Bw.goN (ws' := [(oc7 oM iM_thrown rM_tape iM_taped iM_size iM_at iM_end iM_token iM_whole iM_nameSize iM_fault iM_place iM_trouble rM_letters iM_failed iM_hasCourt rM_r rM_fresh rM_told rM_read rM_st rM_undone rM_kept iM_undos iM_images rM_fresher iM_fresherSize iM_scale iM_night rM_heardRow rM_cutRow iM_breaths iM_cutMany iM_allBreaths rM_trial rM_words iM_fewestBreaths iM_orderMany iM_orderSum iM_leastOrder rM_often iM_setMany iM_someOf iM_allOf iM_allWeight iM_enoughWeight iM_worthSum iM_firstRest iM_leastDrawn), (arI rM_r kM_r 287 fM_r), (arI rM_told kM_told 90 fM_told), (arI rM_st kM_st 90 fM_st), (arI rM_trial kM_trial 90 f_1703)]) hB rfl ht hP hD _ hMs hk1 hFc rfl
  clear hz1 hk1 hvm ht hB hMs
  have r_f_1703 : RowOk fM_r f_1703 := RowOk.copy r_R r_st e_f_1703_0
  refine lv_iconst (v := 0) hx hb dX7_throneIf_15 (by decide) ?_
  refine lv_istore_n (lv' := [(3, .int 0), (0, .ref oM), (1, .int p0), (2, .int p1)]) hx hb dX7_throneIf_16 rfl hl (by decide) rfl (fun ls hl => ?_)
  have hl := lv_sub hl (l' := [(3, .int 0), (0, .ref oM), (1, .int p0), (2, .int p1)]) [0, 1, 2, 3] rfl
  have key_n_1706 : ∀ (n_1706 : Nat) (z_1704 : Int32) (f_1705 : Nat → Int32) (H : Heap) (locs : List Loc) (ls : Array Slot), (0 ≤ z_1704.toInt ∧ z_1704.toInt ≤ 18) → (RowOk fM_r f_1705) → (18 - z_1704.toInt).toNat < n_1706 → va_P (dC, dI) vwCl [(oc7 oM iM_thrown rM_tape iM_taped iM_size iM_at iM_end iM_token iM_whole iM_nameSize iM_fault iM_place iM_trouble rM_letters iM_failed iM_hasCourt rM_r rM_fresh rM_told rM_read rM_st rM_undone rM_kept iM_undos iM_images rM_fresher iM_fresherSize iM_scale iM_night rM_heardRow rM_cutRow iM_breaths iM_cutMany iM_allBreaths rM_trial rM_words iM_fewestBreaths iM_orderMany iM_orderSum iM_leastOrder rM_often iM_setMany iM_someOf iM_allOf iM_allWeight iM_enoughWeight iM_worthSum iM_firstRest iM_leastDrawn), (arI rM_r kM_r 287 fM_r), (arI rM_told kM_told 90 fM_told), (arI rM_st kM_st 90 fM_st), (arI rM_trial kM_trial 90 f_1705)] H → va_D A [(oc7 oM iM_thrown rM_tape iM_taped iM_size iM_at iM_end iM_token iM_whole iM_nameSize iM_fault iM_place iM_trouble rM_letters iM_failed iM_hasCourt rM_r rM_fresh rM_told rM_read rM_st rM_undone rM_kept iM_undos iM_images rM_fresher iM_fresherSize iM_scale iM_night rM_heardRow rM_cutRow iM_breaths iM_cutMany iM_allBreaths rM_trial rM_words iM_fewestBreaths iM_orderMany iM_orderSum iM_leastOrder rM_often iM_setMany iM_someOf iM_allOf iM_allWeight iM_enoughWeight iM_worthSum iM_firstRest iM_leastDrawn), (arI rM_r kM_r 287 fM_r), (arI rM_told kM_told 90 fM_told), (arI rM_st kM_st 90 fM_st), (arI rM_trial kM_trial 90 f_1705)] → va_S A s.heap H locs → lv_has ls 4 [(3, .int z_1704), (0, .ref oM), (1, .int p0), (2, .int p1)] → W p l e (headSpec (Cond.code yX7_throneIf cX7_throneIf 4 (some .int) :: wG) ({ frames := 22, cells := 0, slots := 0, locals := 585 })).room s m ([.ref oM, .int p0, .int p1] : List Value).toArray below meth c H locs 0 0 (MQ below (va_Qi (fun (r : Int32) (_ : Nat) => True ∧ True) (fun (_ : Nat) (t : State) => ∃ (nfM_trial : Nat → Int32), Bw dC dI A [(oc7 oM iM_thrown rM_tape iM_taped iM_size iM_at iM_end iM_token iM_whole iM_nameSize iM_fault iM_place iM_trouble rM_letters iM_failed iM_hasCourt rM_r rM_fresh rM_told rM_read rM_st rM_undone rM_kept iM_undos iM_images rM_fresher iM_fresherSize iM_scale iM_night rM_heardRow rM_cutRow iM_breaths iM_cutMany iM_allBreaths rM_trial rM_words iM_fewestBreaths iM_orderMany iM_orderSum iM_leastOrder rM_often iM_setMany iM_someOf iM_allOf iM_allWeight iM_enoughWeight iM_worthSum iM_firstRest iM_leastDrawn), (arI rM_r kM_r 287 fM_r), (arI rM_told kM_told 90 fM_told), (arI rM_st kM_st 90 fM_st), (arI rM_trial kM_trial 90 nfM_trial)] [(kM_r, .int), (kM_told, .int), (kM_st, .int), (kM_trial, .int)] t) A) ([.ref oM, .int p0, .int p1] : List Value).toArray s 0 0 A) (F0 m 17 ls []) := by
    intro n_1706
    induction n_1706 with
    | zero => intro z_1704 f_1705 H locs ls hi0_n_1706 hi1_n_1706 hm; exact absurd hm (Nat.not_lt_zero _)
    | succ n_1706 ih_n_1706 =>
      intro z_1704 f_1705 H locs ls hi0_n_1706 hi1_n_1706 hm_n_1706 hP hD hS hl
      refine lv_iload_n hx hb dX7_throneIf_17 rfl (lv_at hl 0 rfl) ?_
      refine lv_aload_n hx hb dX7_throneIf_18 rfl (lv_at hl 1 rfl) ?_
      refine va_get (D := (dC, dI)) (ci := 7) (v := .ref rM_r) (C := RX7) (T := TX7) (N := 48) hx hb hts inX7 hown hK hP 0 rfl rfl 15 (by decide) (hts _ wd_155) (fun _ h9 => h9) rfl dX7_throneIf_19 ?_
      refine lv_iconst (v := 1) hx hb dX7_throneIf_22 (by decide) ?_
      refine va_iald hx hb hK hP 1 0 rfl rfl (by unfold vp_in; decide) dX7_throneIf_23 ?_
      refine lv_topi (fun x_1707 ex_1707 => ?_)
      have cx_1707 : (fM_r 1).toInt = x_1707.toInt := congrArg Int32.toInt (show fM_r 1 = x_1707 from ex_1707.symm)
      have sx_1707 := r_R.nodes
      refine lv_icmp_ge (tgt := 63) hx hb dX7_throneIf_24 (by decide) (fun c_1708 => ?_) (fun c_1708 => ?_)
      · skip
        have gc_1708 := ti_le c_1708 rfl rfl
        refine lv_aload_n hx hb dX7_throneIf_63 rfl (lv_at hl 1 rfl) ?_
        refine lv_aload_n hx hb dX7_throneIf_64 rfl (lv_at hl 1 rfl) ?_
        refine va_get (D := (dC, dI)) (ci := 7) (v := .ref rM_trial) (C := RX7) (T := TX7) (N := 48) hx hb hts inX7 hown hK hP 0 rfl rfl 33 (by decide) (hts _ wd_167) (fun _ h9 => h9) rfl dX7_throneIf_65 ?_
        have hMs := ml_of hD [true, true, true, false, true] (wc := [(oc7 oM iM_thrown rM_tape iM_taped iM_size iM_at iM_end iM_token iM_whole iM_nameSize iM_fault iM_place iM_trouble rM_letters iM_failed iM_hasCourt rM_r rM_fresh rM_told rM_read rM_st rM_undone rM_kept iM_undos iM_images rM_fresher iM_fresherSize iM_scale iM_night rM_heardRow rM_cutRow iM_breaths iM_cutMany iM_allBreaths rM_trial rM_words iM_fewestBreaths iM_orderMany iM_orderSum iM_leastOrder rM_often iM_setMany iM_someOf iM_allOf iM_allWeight iM_enoughWeight iM_worthSum iM_firstRest iM_leastDrawn), (arI rM_r kM_r 287 fM_r), (arI rM_told kM_told 90 fM_told), (arI rM_trial kM_trial 90 f_1705)]) rfl
        have hFc := va_freeM hD hS hA _ hMs
        refine va_calli (va_runV (As := [.ref rM_trial]) (rest := []) ⟨hx, hb, hml, hown, hts⟩ (tX7_throneBy l dC dI _ oM iM_thrown rM_tape iM_taped iM_size iM_at iM_end iM_token iM_whole iM_nameSize iM_fault iM_place iM_trouble rM_letters iM_failed iM_hasCourt rM_r fM_r kM_r rM_fresh rM_told fM_told kM_told rM_read rM_st rM_undone rM_kept iM_undos iM_images rM_fresher iM_fresherSize iM_scale iM_night rM_heardRow rM_cutRow iM_breaths iM_cutMany iM_allBreaths rM_trial rM_words iM_fewestBreaths iM_orderMany iM_orderSum iM_leastOrder rM_often iM_setMany iM_someOf iM_allOf iM_allWeight iM_enoughWeight iM_worthSum iM_firstRest iM_leastDrawn rM_trial f_1705 kM_trial b_iM_taped b_iM_size b_iM_end b_iM_failed b_iM_hasCourt b_iM_undos b_iM_images b_iM_scale b_iM_breaths b_iM_cutMany (by assumption) (by assumption) (by assumption) (by assumption) ⟨hth.1, hth.2⟩) (cwV 1 hts (wd_V wd_979 wd_980 wd_981 wd_5 (wd_c wd_982)) rfl rfl rfl dv_yX7_throneBy_1 ⟨Nat.le_of_ble_eq_true rfl, Nat.le_of_ble_eq_true rfl⟩) ⟨Pw.fb, recvX7 hK hP (q0 := 0) rfl, fun U hU hW => Pw.to (hP.ms _ hMs) (hD.ms _ hMs) (hK.ms [true, true, false, true] rfl) hE hS hFc hU hW⟩ rfl rfl hl.1 rfl (lv_room (Nat.le_of_ble_eq_true rfl)) dX7_throneIf_68 ⟨Nat.le_of_ble_eq_true rfl, Nat.le_of_ble_eq_true rfl⟩) hS (fun q _ h => hFc q h) hFc (fun r u t H locs ht hvm hw hB hz1 hk1 hS => ?_)
        have hru9 := hw.2
        have hw := hw.1
        obtain ⟨hP, hD⟩ := Bw.goN (ws' := [(oc7 oM iM_thrown rM_tape iM_taped iM_size iM_at iM_end iM_token iM_whole iM_nameSize iM_fault iM_place iM_trouble rM_letters iM_failed iM_hasCourt rM_r rM_fresh rM_told rM_read rM_st rM_undone rM_kept iM_undos iM_images rM_fresher iM_fresherSize iM_scale iM_night rM_heardRow rM_cutRow iM_breaths iM_cutMany iM_allBreaths rM_trial rM_words iM_fewestBreaths iM_orderMany iM_orderSum iM_leastOrder rM_often iM_setMany iM_someOf iM_allOf iM_allWeight iM_enoughWeight iM_worthSum iM_firstRest iM_leastDrawn), (arI rM_r kM_r 287 fM_r), (arI rM_told kM_told 90 fM_told), (arI rM_st kM_st 90 fM_st), (arI rM_trial kM_trial 90 f_1705)]) hB rfl ht hP hD _ hMs hk1 hFc rfl
        clear hz1 hk1 hvm ht hB hMs
        obtain ⟨x_1709, rfl⟩ : ∃ z, z = r := ⟨_, rfl⟩
        exact wq_i hx hb hr 0 ⟨trivial, trivial⟩ (fun t ht hW => ⟨f_1705, Bw.to hP hD hK ht hW⟩) hS dX7_throneIf_71 hlocks
      · skip
        have gc_1708 := ti_nle c_1708 rfl rfl
        refine lv_aload_n hx hb dX7_throneIf_27 rfl (lv_at hl 1 rfl) ?_
        refine va_get (D := (dC, dI)) (ci := 7) (v := .ref rM_r) (C := RX7) (T := TX7) (N := 48) hx hb hts inX7 hown hK hP 0 rfl rfl 15 (by decide) (hts _ wd_155) (fun _ h9 => h9) rfl dX7_throneIf_28 ?_
        refine lv_bipush (v := 9) hx hb dX7_throneIf_31 (by decide) ?_
        refine lv_iload_n hx hb dX7_throneIf_33 rfl (lv_at hl 0 rfl) ?_
        refine lv_iadd hx hb dX7_throneIf_34 ?_
        refine lv_topi (fun x_1710 ex_1710 => ?_)
        have vx_1710 : x_1710.toInt = z_1704.toInt + 9 := om_296ce4dd (ti_add ex_1710 kc_9 rfl (om_090bbef4 hi0_n_1706.1) (om_ff61d3c6 hi0_n_1706.2))
        refine va_iald hx hb hK hP 1 0 rfl rfl (ti_in vx_1710 (om_edbe2e4c hi0_n_1706.1) (om_bcd0330c hi0_n_1706.2)) dX7_throneIf_35 ?_
        refine lv_topi (fun x_1711 ex_1711 => ?_)
        have kx_1711 : (fM_r x_1710.toNatClampNeg).toInt = x_1711.toInt := by rw [ex_1711]
        have cx_1711 : (fM_r (9 + z_1704.toNatClampNeg)).toInt = x_1711.toInt := by rw [show 9 + z_1704.toNatClampNeg = x_1710.toNatClampNeg from (om_32f1c3e7 (ti_cl (x := z_1704) rfl hi0_n_1706.1) (ti_cl (x := x_1710) vx_1710 (om_edbe2e4c hi0_n_1706.1)))]; exact kx_1711
        have sx_1711 := r_R.kind x_1710.toNatClampNeg (om_462cc4af (ti_cl (x := x_1710) vx_1710 (om_edbe2e4c hi0_n_1706.1)) hi0_n_1706.1) (om_19da1274 (ti_cl (x := x_1710) vx_1710 (om_edbe2e4c hi0_n_1706.1)) s_nodes.2 cx_1707 gc_1708)
        refine lv_if_ne (tgt := 57) hx hb dX7_throneIf_36 (by decide) (fun c_1712 => ?_) (fun c_1712 => ?_)
        · skip
          have gc_1712 := ti_ne c_1712 rfl kc_0
          obtain ⟨x_1713, ex_1713⟩ : ∃ z : Int32, z = z_1704 + Int32.ofInt 1 := ⟨_, rfl⟩
          have vx_1713 : x_1713.toInt = z_1704.toInt + 1 := ti_add (y := 1) ex_1713 rfl kc_1 (om_4e4fce7e hi0_n_1706.1) (om_9d611bdb hi0_n_1706.2)
          refine lv_iinc (v := x_1713) (lv' := [(3, .int x_1713), (0, .ref oM), (1, .int p0), (2, .int p1)]) hx hb dX7_throneIf_57 hl (k := 0) rfl ex_1713.symm (by decide) rfl (fun ls hl => ?_)
          refine lv_goto (tgt := 17) hx hb dX7_throneIf_60 (by decide) ?_
          exact ih_n_1706 x_1713 f_1705 _ _ _  ⟨(om_83b90de5 hi0_n_1706.1 vx_1713), (om_42ed3fc5 s_nodes.2 cx_1707 gc_1708 vx_1713)⟩ (by first | assumption | omega | decide) (ms_lt hm_n_1706 (om_0886d075 vx_1713) (om_a5cacb64 s_nodes.2 cx_1707 gc_1708)) hP hD hS (lv_sub hl [0, 1, 2, 3] rfl)
        · skip
          have gc_1712 := ti_eq c_1712 rfl kc_0
          refine lv_iload_n hx hb dX7_throneIf_39 rfl (lv_at hl 2 rfl) ?_
          refine lv_iload_n hx hb dX7_throneIf_40 rfl (lv_at hl 0 rfl) ?_
          have hFc : ∀ q, va_A [] _ q → A q := fun q h => hA q (Nat.le_trans hS.1 (va_nilA h))
          refine va_calli (va_runS (As := [.int p0, .int z_1704]) (rest := []) ⟨hx, hb, hml, hown, hts⟩ (tX7_hasBit l dC dI _ p0 z_1704 ) (va_cwS 2 hts (wd_S wd_968 wd_969 wd_5 (wd_c wd_970)) rfl rfl rfl ds_yX7_hasBit_2 ⟨Nat.le_of_ble_eq_true rfl, Nat.le_of_ble_eq_true rfl⟩) ⟨Pw.fb, fun U hU hW => Pn.to hK hE hS hA hU hW⟩ rfl rfl hl.1 rfl (lv_room (Nat.le_of_ble_eq_true rfl)) dX7_throneIf_41 ⟨Nat.le_of_ble_eq_true rfl, Nat.le_of_ble_eq_true rfl⟩) hS (fun q _ h => hFc q h) hFc (fun r u t H locs ht hvm hw hB hz1 hk1 hS => ?_)
          obtain ⟨hP, hD, hK⟩ := Bw.same ht hvm hP hD hK hk1 hFc
          clear hz1 hk1 hvm ht hB
          have hq9 := hw.2
          have hw := hw.1
          obtain ⟨x_1714, rfl⟩ : ∃ z, z = r := ⟨_, rfl⟩
          have bx_1714 := hw.1
          have dx_1714 := bz_tb bx_1714
          refine lv_if_ne (tgt := 57) hx hb dX7_throneIf_44 (by decide) (fun c_1715 => ?_) (fun c_1715 => ?_)
          · skip
            have gc_1715 := ti_ne c_1715 rfl kc_0
            obtain ⟨x_1716, ex_1716⟩ : ∃ z : Int32, z = z_1704 + Int32.ofInt 1 := ⟨_, rfl⟩
            have vx_1716 : x_1716.toInt = z_1704.toInt + 1 := ti_add (y := 1) ex_1716 rfl kc_1 (om_4e4fce7e hi0_n_1706.1) (om_9d611bdb hi0_n_1706.2)
            refine lv_iinc (v := x_1716) (lv' := [(3, .int x_1716), (0, .ref oM), (1, .int p0), (2, .int p1)]) hx hb dX7_throneIf_57 hl (k := 0) rfl ex_1716.symm (by decide) rfl (fun ls hl => ?_)
            refine lv_goto (tgt := 17) hx hb dX7_throneIf_60 (by decide) ?_
            exact ih_n_1706 x_1716 f_1705 _ _ _  ⟨(om_83b90de5 hi0_n_1706.1 vx_1716), (om_42ed3fc5 s_nodes.2 cx_1707 gc_1708 vx_1716)⟩ (by first | assumption | omega | decide) (ms_lt hm_n_1706 (om_0886d075 vx_1716) (om_a5cacb64 s_nodes.2 cx_1707 gc_1708)) hP hD hS (lv_sub hl [0, 1, 2, 3] rfl)
          · skip
            have gc_1715 := ti_eq c_1715 rfl kc_0
            refine lv_aload_n hx hb dX7_throneIf_47 rfl (lv_at hl 1 rfl) ?_
            refine va_get (D := (dC, dI)) (ci := 7) (v := .ref rM_trial) (C := RX7) (T := TX7) (N := 48) hx hb hts inX7 hown hK hP 0 rfl rfl 33 (by decide) (hts _ wd_167) (fun _ h9 => h9) rfl dX7_throneIf_48 ?_
            refine lv_bipush (v := 72) hx hb dX7_throneIf_51 (by decide) ?_
            refine lv_iload_n hx hb dX7_throneIf_53 rfl (lv_at hl 0 rfl) ?_
            refine lv_iadd hx hb dX7_throneIf_54 ?_
            refine lv_topi (fun x_1717 ex_1717 => ?_)
            have vx_1717 : x_1717.toInt = z_1704.toInt + 72 := om_2d0716db (ti_add ex_1717 kc_72 rfl (om_7e97233d hi0_n_1706.1) (om_aa9e05ca hi0_n_1706.2))
            refine lv_iload_n hx hb dX7_throneIf_55 rfl (lv_at hl 3 rfl) ?_
            refine va_iast hx hb hK hP hD hS 4 3 rfl rfl (ti_in vx_1717 (om_2ad8b1ab hi0_n_1706.1) (om_372bb831 s_nodes.2 cx_1707 gc_1708)) dX7_throneIf_56 (fun H locs hP hD hS => ?_)
            obtain ⟨f_1718, ef_1718⟩ : ∃ g : Nat → Int32, g = upd f_1705 x_1717.toNatClampNeg p1 := ⟨_, rfl⟩
            rw [← ef_1718] at hP hD
            obtain ⟨hP, hD⟩ := wl2 (ws' := [(oc7 oM iM_thrown rM_tape iM_taped iM_size iM_at iM_end iM_token iM_whole iM_nameSize iM_fault iM_place iM_trouble rM_letters iM_failed iM_hasCourt rM_r rM_fresh rM_told rM_read rM_st rM_undone rM_kept iM_undos iM_images rM_fresher iM_fresherSize iM_scale iM_night rM_heardRow rM_cutRow iM_breaths iM_cutMany iM_allBreaths rM_trial rM_words iM_fewestBreaths iM_orderMany iM_orderSum iM_leastOrder rM_often iM_setMany iM_someOf iM_allOf iM_allWeight iM_enoughWeight iM_worthSum iM_firstRest iM_leastDrawn), (arI rM_r kM_r 287 fM_r), (arI rM_told kM_told 90 fM_told), (arI rM_st kM_st 90 fM_st), (arI rM_trial kM_trial 90 f_1718)]) hP hD rfl
            have r_f_1718 : RowOk fM_r f_1718 := RowOk.hi r_R hi1_n_1706 ef_1718 (by have q9 := ti_cl (x := x_1717) vx_1717 (om_2ad8b1ab hi0_n_1706.1); omega)
            obtain ⟨x_1719, ex_1719⟩ : ∃ z : Int32, z = z_1704 + Int32.ofInt 1 := ⟨_, rfl⟩
            have vx_1719 : x_1719.toInt = z_1704.toInt + 1 := ti_add (y := 1) ex_1719 rfl kc_1 (om_4e4fce7e hi0_n_1706.1) (om_9d611bdb hi0_n_1706.2)
            refine lv_iinc (v := x_1719) (lv' := [(3, .int x_1719), (0, .ref oM), (1, .int p0), (2, .int p1)]) hx hb dX7_throneIf_57 hl (k := 0) rfl ex_1719.symm (by decide) rfl (fun ls hl => ?_)
            refine lv_goto (tgt := 17) hx hb dX7_throneIf_60 (by decide) ?_
            exact ih_n_1706 x_1719 f_1718 _ _ _  ⟨(om_83b90de5 hi0_n_1706.1 vx_1719), (om_42ed3fc5 s_nodes.2 cx_1707 gc_1708 vx_1719)⟩ (by first | assumption | omega | decide) (ms_lt hm_n_1706 (om_0886d075 vx_1719) (om_a5cacb64 s_nodes.2 cx_1707 gc_1708)) hP hD hS (lv_sub hl [0, 1, 2, 3] rfl)
  exact key_n_1706 (((18 - (0 : Int32).toInt).toNat) + 1) 0 f_1703 _ _ _  ⟨(om_b1de7dbe kc_0), (om_8ad0707b kc_0)⟩ (by first | assumption | omega | decide) (Nat.lt_add_one _) hP hD hS hl
set_option maxHeartbeats 4000000 in
set_option maxRecDepth 100000 in
theorem tX7_doesProve (l : Launch) (dC : Nat → ClassId) (dI : Nat → Nat → Nat) (sz : Nat) (oM : Nat) (iM_thrown : Int32) (rM_tape : Nat) (iM_taped : Int32) (iM_size : Int32) (iM_at : Int32) (iM_end : Int32) (iM_token : Int32) (iM_whole : Int32) (iM_nameSize : Int32) (iM_fault : Int32) (iM_place : Int32) (iM_trouble : Int32) (rM_letters : Nat) (iM_failed : Int32) (iM_hasCourt : Int32) (rM_r : Nat) (fM_r : Nat → Int32) (kM_r : ClassId) (rM_fresh : Nat) (rM_told : Nat) (fM_told : Nat → Int32) (kM_told : ClassId) (rM_read : Nat) (rM_st : Nat) (fM_st : Nat → Int32) (kM_st : ClassId) (rM_undone : Nat) (rM_kept : Nat) (iM_undos : Int32) (iM_images : Int32) (rM_fresher : Nat) (iM_fresherSize : Int32) (iM_scale : Int32) (iM_night : Int32) (rM_heardRow : Nat) (rM_cutRow : Nat) (iM_breaths : Int32) (iM_cutMany : Int32) (iM_allBreaths : Int32) (rM_trial : Nat) (fM_trial : Nat → Int32) (kM_trial : ClassId) (rM_words : Nat) (iM_fewestBreaths : Int32) (iM_orderMany : Int32) (iM_orderSum : Int32) (iM_leastOrder : Int32) (rM_often : Nat) (iM_setMany : Int32) (iM_someOf : Int32) (iM_allOf : Int32) (iM_allWeight : Int64) (iM_enoughWeight : Int64) (iM_worthSum : Int64) (iM_firstRest : Int32) (iM_leastDrawn : Int32) (p0 : Int32) (p1 : Int32) (p2 : Int32) (b_iM_taped : 0 ≤ iM_taped.toInt ∧ iM_taped.toInt ≤ 900) (b_iM_size : 0 ≤ iM_size.toInt ∧ iM_size.toInt ≤ 900) (b_iM_end : 0 ≤ iM_end.toInt ∧ iM_end.toInt ≤ 900) (b_iM_failed : 0 ≤ iM_failed.toInt ∧ iM_failed.toInt ≤ 1) (b_iM_hasCourt : 0 ≤ iM_hasCourt.toInt ∧ iM_hasCourt.toInt ≤ 1) (b_iM_undos : 0 ≤ iM_undos.toInt ∧ iM_undos.toInt ≤ 16) (b_iM_images : 0 ≤ iM_images.toInt ∧ iM_images.toInt ≤ 3) (b_iM_scale : 1 ≤ iM_scale.toInt ∧ iM_scale.toInt ≤ 1296) (b_iM_breaths : 0 ≤ iM_breaths.toInt ∧ iM_breaths.toInt ≤ 399) (b_iM_cutMany : 0 ≤ iM_cutMany.toInt ∧ iM_cutMany.toInt ≤ 399) (r_R : ROk fM_r) (r_C : iM_hasCourt.toInt ≤ 0 ∨ (1 ≤ (fM_r 1).toInt ∧ 0 ≤ (fM_r 6).toInt ∧ (fM_r 6).toInt < (fM_r 1).toInt)) (r_st : RowOk fM_r fM_st) (r_told : RowOk fM_r fM_told) (r_wst : WorOk fM_st) (hth : 0 ≤ (fM_r 6).toInt ∧ (fM_r 6).toInt < (fM_r 1).toInt) : Met l yX7_doesProve (Cond.code yX7_doesProve cX7_doesProve 4 (some .boolean) :: wG) ({ frames := 23, cells := 0, slots := 0, locals := 608 }) (va_Pc [.ref oM, .int p0, .int p1, .int p2] (Pw dC dI sz [(oc7 oM iM_thrown rM_tape iM_taped iM_size iM_at iM_end iM_token iM_whole iM_nameSize iM_fault iM_place iM_trouble rM_letters iM_failed iM_hasCourt rM_r rM_fresh rM_told rM_read rM_st rM_undone rM_kept iM_undos iM_images rM_fresher iM_fresherSize iM_scale iM_night rM_heardRow rM_cutRow iM_breaths iM_cutMany iM_allBreaths rM_trial rM_words iM_fewestBreaths iM_orderMany iM_orderSum iM_leastOrder rM_often iM_setMany iM_someOf iM_allOf iM_allWeight iM_enoughWeight iM_worthSum iM_firstRest iM_leastDrawn), (arI rM_r kM_r 287 fM_r), (arI rM_told kM_told 90 fM_told), (arI rM_st kM_st 90 fM_st), (arI rM_trial kM_trial 90 fM_trial)] [(kM_r, .int), (kM_told, .int), (kM_st, .int), (kM_trial, .int)])) (va_Qi (fun (r : Int32) (_ : Nat) => (r = 0 ∨ r = 1) ∧ True) (fun (_ : Nat) (t : State) => ∃ (nfM_trial : Nat → Int32), Bw dC dI (va_A [(oc7 oM iM_thrown rM_tape iM_taped iM_size iM_at iM_end iM_token iM_whole iM_nameSize iM_fault iM_place iM_trouble rM_letters iM_failed iM_hasCourt rM_r rM_fresh rM_told rM_read rM_st rM_undone rM_kept iM_undos iM_images rM_fresher iM_fresherSize iM_scale iM_night rM_heardRow rM_cutRow iM_breaths iM_cutMany iM_allBreaths rM_trial rM_words iM_fewestBreaths iM_orderMany iM_orderSum iM_leastOrder rM_often iM_setMany iM_someOf iM_allOf iM_allWeight iM_enoughWeight iM_worthSum iM_firstRest iM_leastDrawn), (arI rM_r kM_r 287 fM_r), (arI rM_told kM_told 90 fM_told), (arI rM_st kM_st 90 fM_st), (arI rM_trial kM_trial 90 fM_trial)] sz) [(oc7 oM iM_thrown rM_tape iM_taped iM_size iM_at iM_end iM_token iM_whole iM_nameSize iM_fault iM_place iM_trouble rM_letters iM_failed iM_hasCourt rM_r rM_fresh rM_told rM_read rM_st rM_undone rM_kept iM_undos iM_images rM_fresher iM_fresherSize iM_scale iM_night rM_heardRow rM_cutRow iM_breaths iM_cutMany iM_allBreaths rM_trial rM_words iM_fewestBreaths iM_orderMany iM_orderSum iM_leastOrder rM_often iM_setMany iM_someOf iM_allOf iM_allWeight iM_enoughWeight iM_worthSum iM_firstRest iM_leastDrawn), (arI rM_r kM_r 287 fM_r), (arI rM_told kM_told 90 fM_told), (arI rM_st kM_st 90 fM_st), (arI rM_trial kM_trial 90 nfM_trial)] [(kM_r, .int), (kM_told, .int), (kM_st, .int), (kM_trial, .int)] t) (va_A [(oc7 oM iM_thrown rM_tape iM_taped iM_size iM_at iM_end iM_token iM_whole iM_nameSize iM_fault iM_place iM_trouble rM_letters iM_failed iM_hasCourt rM_r rM_fresh rM_told rM_read rM_st rM_undone rM_kept iM_undos iM_images rM_fresher iM_fresherSize iM_scale iM_night rM_heardRow rM_cutRow iM_breaths iM_cutMany iM_allBreaths rM_trial rM_words iM_fewestBreaths iM_orderMany iM_orderSum iM_leastOrder rM_often iM_setMany iM_someOf iM_allOf iM_allWeight iM_enoughWeight iM_worthSum iM_firstRest iM_leastDrawn), (arI rM_r kM_r 287 fM_r), (arI rM_told kM_told 90 fM_told), (arI rM_st kM_st 90 fM_st), (arI rM_trial kM_trial 90 fM_trial)] sz)) 0 0 (va_A [(oc7 oM iM_thrown rM_tape iM_taped iM_size iM_at iM_end iM_token iM_whole iM_nameSize iM_fault iM_place iM_trouble rM_letters iM_failed iM_hasCourt rM_r rM_fresh rM_told rM_read rM_st rM_undone rM_kept iM_undos iM_images rM_fresher iM_fresherSize iM_scale iM_night rM_heardRow rM_cutRow iM_breaths iM_cutMany iM_allBreaths rM_trial rM_words iM_fewestBreaths iM_orderMany iM_orderSum iM_leastOrder rM_often iM_setMany iM_someOf iM_allOf iM_allWeight iM_enoughWeight iM_worthSum iM_firstRest iM_leastDrawn), (arI rM_r kM_r 287 fM_r), (arI rM_told kM_told 90 fM_told), (arI rM_st kM_st 90 fM_st), (arI rM_trial kM_trial 90 fM_trial)] sz) := by
  refine Met.ofW (cc := cX7_doesProve) (maxL := 4) (ret := (some .boolean)) pnX7 rfl ?_
  intro p e s m args below meth c s₁ B hml hv
  obtain ⟨rfl, hsz, hP, hK, hD0, hE⟩ := hv
  have hx := B.exec
  have hb := B.bytes
  have hr := B.returns
  have hts : ∀ w ∈ wG, w.before ([.ref oM, .int p0, .int p1, .int p2] : List Value).toArray s = true := fun w h => atoms_spec (ws := Cond.code yX7_doesProve cX7_doesProve 4 (some .boolean) :: wG) B.pre w (List.mem_cons_of_mem _ h)
  have hown : s.vm.findClass RX7 = some m.cls := own_of B.named rfl
  have hlocks := B.notSynchronized
  subst hsz
  have hD := hD0.self (sz := s.heap.size)
  generalize hAe : va_A [(oc7 oM iM_thrown rM_tape iM_taped iM_size iM_at iM_end iM_token iM_whole iM_nameSize iM_fault iM_place iM_trouble rM_letters iM_failed iM_hasCourt rM_r rM_fresh rM_told rM_read rM_st rM_undone rM_kept iM_undos iM_images rM_fresher iM_fresherSize iM_scale iM_night rM_heardRow rM_cutRow iM_breaths iM_cutMany iM_allBreaths rM_trial rM_words iM_fewestBreaths iM_orderMany iM_orderSum iM_leastOrder rM_often iM_setMany iM_someOf iM_allOf iM_allWeight iM_enoughWeight iM_worthSum iM_firstRest iM_leastDrawn), (arI rM_r kM_r 287 fM_r), (arI rM_told kM_told 90 fM_told), (arI rM_st kM_st 90 fM_st), (arI rM_trial kM_trial 90 fM_trial)] s.heap.size = A at hD hE ⊢
  have hA : ∀ q : Nat, s.heap.size ≤ q → A q := fun q h => by rw [← hAe]; exact Or.inr h
  have hS : va_S A s.heap s.heap [] := va_S.rf
  have hl := lv_entry ([.ref oM, .int p0, .int p1, .int p2]) (n := 4) (Nat.le_of_ble_eq_true rfl)
  rw [lg_entry_eq]
  generalize (lg_sl ([.ref oM, .int p0, .int p1, .int p2]) ++ List.replicate (4 - (lg_sl ([.ref oM, .int p0, .int p1, .int p2])).length) Slot.unset).toArray = ls at hl ⊢
  have hl : lv_has ls 4 [(0, .ref oM), (1, .int p0), (2, .int p1), (3, .int p2)] := hl
  have s_slips := r_R.slips
  have s_nodes := r_R.nodes
  have s_uns := r_R.uns
  refine lv_iload_n hx hb dX7_doesProve_0 rfl (lv_at hl 2 rfl) ?_
  refine lv_if_ne (tgt := 25) hx hb dX7_doesProve_1 (by decide) (fun c_1735 => ?_) (fun c_1735 => ?_)
  · skip
    have gc_1735 := ti_ne c_1735 rfl kc_0
    refine lv_iload_n hx hb dX7_doesProve_25 rfl (lv_at hl 2 rfl) ?_
    refine lv_iconst (v := 1) hx hb dX7_doesProve_26 (by decide) ?_
    refine lv_icmp_ne (tgt := 52) hx hb dX7_doesProve_27 (by decide) (fun c_1736 => ?_) (fun c_1736 => ?_)
    · skip
      have gc_1736 := ti_ne c_1736 rfl kc_1
      refine lv_aload_n hx hb dX7_doesProve_52 rfl (lv_at hl 0 rfl) ?_
      refine lv_iload_n hx hb dX7_doesProve_53 rfl (lv_at hl 1 rfl) ?_
      refine lv_iconst (v := 0) hx hb dX7_doesProve_54 (by decide) ?_
      have hFc := va_freeI hD hS hA
      refine va_calli (va_runV (As := [.int p0, .int 0]) (rest := []) ⟨hx, hb, hml, hown, hts⟩ (tX7_throneIf l dC dI _ oM iM_thrown rM_tape iM_taped iM_size iM_at iM_end iM_token iM_whole iM_nameSize iM_fault iM_place iM_trouble rM_letters iM_failed iM_hasCourt rM_r fM_r kM_r rM_fresh rM_told fM_told kM_told rM_read rM_st fM_st kM_st rM_undone rM_kept iM_undos iM_images rM_fresher iM_fresherSize iM_scale iM_night rM_heardRow rM_cutRow iM_breaths iM_cutMany iM_allBreaths rM_trial fM_trial kM_trial rM_words iM_fewestBreaths iM_orderMany iM_orderSum iM_leastOrder rM_often iM_setMany iM_someOf iM_allOf iM_allWeight iM_enoughWeight iM_worthSum iM_firstRest iM_leastDrawn p0 0 b_iM_taped b_iM_size b_iM_end b_iM_failed b_iM_hasCourt b_iM_undos b_iM_images b_iM_scale b_iM_breaths b_iM_cutMany (by assumption) (by assumption) (by assumption) (by assumption) (by assumption) ⟨hth.1, hth.2⟩) (cwV 2 hts (wd_V wd_975 wd_976 wd_977 wd_5 (wd_c wd_978)) rfl rfl rfl dv_yX7_throneIf_2 ⟨Nat.le_of_ble_eq_true rfl, Nat.le_of_ble_eq_true rfl⟩) ⟨Pw.fb, recvX7 hK hP (q0 := 0) rfl, fun U hU hW => Pw.to hP hD hK hE hS hFc hU hW⟩ rfl rfl hl.1 rfl (lv_room (Nat.le_of_ble_eq_true rfl)) dX7_doesProve_55 ⟨Nat.le_of_ble_eq_true rfl, Nat.le_of_ble_eq_true rfl⟩) hS (fun q _ h => hFc q h) hFc (fun r u t H locs ht hvm hw hB hz1 hk1 hS => ?_)
      refine ex_1_0 hB (fun f_1737 hB => ?_)
      obtain ⟨hP, hD⟩ := Bw.goA (ws' := [(oc7 oM iM_thrown rM_tape iM_taped iM_size iM_at iM_end iM_token iM_whole iM_nameSize iM_fault iM_place iM_trouble rM_letters iM_failed iM_hasCourt rM_r rM_fresh rM_told rM_read rM_st rM_undone rM_kept iM_undos iM_images rM_fresher iM_fresherSize iM_scale iM_night rM_heardRow rM_cutRow iM_breaths iM_cutMany iM_allBreaths rM_trial rM_words iM_fewestBreaths iM_orderMany iM_orderSum iM_leastOrder rM_often iM_setMany iM_someOf iM_allOf iM_allWeight iM_enoughWeight iM_worthSum iM_firstRest iM_leastDrawn), (arI rM_r kM_r 287 fM_r), (arI rM_told kM_told 90 fM_told), (arI rM_st kM_st 90 fM_st), (arI rM_trial kM_trial 90 f_1737)]) hB rfl ht hFc rfl
      clear hz1 hk1 hvm ht hB
      obtain ⟨x_1738, rfl⟩ : ∃ z, z = r := ⟨_, rfl⟩
      refine lv_aload_n hx hb dX7_doesProve_58 rfl (lv_at hl 0 rfl) ?_
      refine lv_iload_n hx hb dX7_doesProve_59 rfl (lv_at hl 1 rfl) ?_
      refine lv_bipush (v := 99) hx hb dX7_doesProve_60 (by decide) ?_
      have hFc := va_freeI hD hS hA
      refine va_calli (va_runV (As := [.int p0, .int 99]) (rest := [.int x_1738]) ⟨hx, hb, hml, hown, hts⟩ (tX7_throneIf l dC dI _ oM iM_thrown rM_tape iM_taped iM_size iM_at iM_end iM_token iM_whole iM_nameSize iM_fault iM_place iM_trouble rM_letters iM_failed iM_hasCourt rM_r fM_r kM_r rM_fresh rM_told fM_told kM_told rM_read rM_st fM_st kM_st rM_undone rM_kept iM_undos iM_images rM_fresher iM_fresherSize iM_scale iM_night rM_heardRow rM_cutRow iM_breaths iM_cutMany iM_allBreaths rM_trial f_1737 kM_trial rM_words iM_fewestBreaths iM_orderMany iM_orderSum iM_leastOrder rM_often iM_setMany iM_someOf iM_allOf iM_allWeight iM_enoughWeight iM_worthSum iM_firstRest iM_leastDrawn p0 99 b_iM_taped b_iM_size b_iM_end b_iM_failed b_iM_hasCourt b_iM_undos b_iM_images b_iM_scale b_iM_breaths b_iM_cutMany (by assumption) (by assumption) (by assumption) (by assumption) (by assumption) ⟨hth.1, hth.2⟩) (cwV 2 hts (wd_V wd_975 wd_976 wd_977 wd_5 (wd_c wd_978)) rfl rfl rfl dv_yX7_throneIf_2 ⟨Nat.le_of_ble_eq_true rfl, Nat.le_of_ble_eq_true rfl⟩) ⟨Pw.fb, recvX7 hK hP (q0 := 0) rfl, fun U hU hW => Pw.to hP hD hK hE hS hFc hU hW⟩ rfl rfl hl.1 rfl (lv_room (Nat.le_of_ble_eq_true rfl)) dX7_doesProve_62 ⟨Nat.le_of_ble_eq_true rfl, Nat.le_of_ble_eq_true rfl⟩) hS (fun q _ h => hFc q h) hFc (fun r u t H locs ht hvm hw hB hz1 hk1 hS => ?_)
      refine ex_1_0 hB (fun f_1739 hB => ?_)
      obtain ⟨hP, hD⟩ := Bw.goA (ws' := [(oc7 oM iM_thrown rM_tape iM_taped iM_size iM_at iM_end iM_token iM_whole iM_nameSize iM_fault iM_place iM_trouble rM_letters iM_failed iM_hasCourt rM_r rM_fresh rM_told rM_read rM_st rM_undone rM_kept iM_undos iM_images rM_fresher iM_fresherSize iM_scale iM_night rM_heardRow rM_cutRow iM_breaths iM_cutMany iM_allBreaths rM_trial rM_words iM_fewestBreaths iM_orderMany iM_orderSum iM_leastOrder rM_often iM_setMany iM_someOf iM_allOf iM_allWeight iM_enoughWeight iM_worthSum iM_firstRest iM_leastDrawn), (arI rM_r kM_r 287 fM_r), (arI rM_told kM_told 90 fM_told), (arI rM_st kM_st 90 fM_st), (arI rM_trial kM_trial 90 f_1739)]) hB rfl ht hFc rfl
      clear hz1 hk1 hvm ht hB
      obtain ⟨x_1740, rfl⟩ : ∃ z, z = r := ⟨_, rfl⟩
      refine lv_icmp_ne (tgt := 72) hx hb dX7_doesProve_65 (by decide) (fun c_1741 => ?_) (fun c_1741 => ?_)
      · skip
        have gc_1741 := ti_ne c_1741 rfl rfl
        refine lv_iconst (v := 0) hx hb dX7_doesProve_72 (by decide) ?_
        exact wq_z (v := 0) hx hb hr rfl 0 ⟨Or.inl rfl, trivial⟩ (fun t ht hW => ⟨f_1739, Bw.to hP hD hK ht hW⟩) hS dX7_doesProve_73 hlocks
      · skip
        have gc_1741 := ti_eq c_1741 rfl rfl
        refine lv_iconst (v := 1) hx hb dX7_doesProve_68 (by decide) ?_
        refine lv_goto (tgt := 73) hx hb dX7_doesProve_69 (by decide) ?_
        exact wq_z (v := 1) hx hb hr rfl 0 ⟨Or.inr rfl, trivial⟩ (fun t ht hW => ⟨f_1739, Bw.to hP hD hK ht hW⟩) hS dX7_doesProve_73 hlocks
    · skip
      have gc_1736 := ti_eq c_1736 rfl kc_1
      refine lv_aload_n hx hb dX7_doesProve_30 rfl (lv_at hl 0 rfl) ?_
      refine lv_iload_n hx hb dX7_doesProve_31 rfl (lv_at hl 1 rfl) ?_
      refine lv_bipush (v := 99) hx hb dX7_doesProve_32 (by decide) ?_
      have hFc := va_freeI hD hS hA
      refine va_calli (va_runV (As := [.int p0, .int 99]) (rest := []) ⟨hx, hb, hml, hown, hts⟩ (tX7_throneIf l dC dI _ oM iM_thrown rM_tape iM_taped iM_size iM_at iM_end iM_token iM_whole iM_nameSize iM_fault iM_place iM_trouble rM_letters iM_failed iM_hasCourt rM_r fM_r kM_r rM_fresh rM_told fM_told kM_told rM_read rM_st fM_st kM_st rM_undone rM_kept iM_undos iM_images rM_fresher iM_fresherSize iM_scale iM_night rM_heardRow rM_cutRow iM_breaths iM_cutMany iM_allBreaths rM_trial fM_trial kM_trial rM_words iM_fewestBreaths iM_orderMany iM_orderSum iM_leastOrder rM_often iM_setMany iM_someOf iM_allOf iM_allWeight iM_enoughWeight iM_worthSum iM_firstRest iM_leastDrawn p0 99 b_iM_taped b_iM_size b_iM_end b_iM_failed b_iM_hasCourt b_iM_undos b_iM_images b_iM_scale b_iM_breaths b_iM_cutMany (by assumption) (by assumption) (by assumption) (by assumption) (by assumption) ⟨hth.1, hth.2⟩) (cwV 2 hts (wd_V wd_975 wd_976 wd_977 wd_5 (wd_c wd_978)) rfl rfl rfl dv_yX7_throneIf_2 ⟨Nat.le_of_ble_eq_true rfl, Nat.le_of_ble_eq_true rfl⟩) ⟨Pw.fb, recvX7 hK hP (q0 := 0) rfl, fun U hU hW => Pw.to hP hD hK hE hS hFc hU hW⟩ rfl rfl hl.1 rfl (lv_room (Nat.le_of_ble_eq_true rfl)) dX7_doesProve_34 ⟨Nat.le_of_ble_eq_true rfl, Nat.le_of_ble_eq_true rfl⟩) hS (fun q _ h => hFc q h) hFc (fun r u t H locs ht hvm hw hB hz1 hk1 hS => ?_)
      refine ex_1_0 hB (fun f_1742 hB => ?_)
      obtain ⟨hP, hD⟩ := Bw.goA (ws' := [(oc7 oM iM_thrown rM_tape iM_taped iM_size iM_at iM_end iM_token iM_whole iM_nameSize iM_fault iM_place iM_trouble rM_letters iM_failed iM_hasCourt rM_r rM_fresh rM_told rM_read rM_st rM_undone rM_kept iM_undos iM_images rM_fresher iM_fresherSize iM_scale iM_night rM_heardRow rM_cutRow iM_breaths iM_cutMany iM_allBreaths rM_trial rM_words iM_fewestBreaths iM_orderMany iM_orderSum iM_leastOrder rM_often iM_setMany iM_someOf iM_allOf iM_allWeight iM_enoughWeight iM_worthSum iM_firstRest iM_leastDrawn), (arI rM_r kM_r 287 fM_r), (arI rM_told kM_told 90 fM_told), (arI rM_st kM_st 90 fM_st), (arI rM_trial kM_trial 90 f_1742)]) hB rfl ht hFc rfl
      clear hz1 hk1 hvm ht hB
      obtain ⟨x_1743, rfl⟩ : ∃ z, z = r := ⟨_, rfl⟩
      refine lv_iload_n hx hb dX7_doesProve_37 rfl (lv_at hl 3 rfl) ?_
      refine lv_aload_n hx hb dX7_doesProve_38 rfl (lv_at hl 0 rfl) ?_
      refine va_get (D := (dC, dI)) (ci := 7) (v := .int iM_scale) (C := RX7) (T := TX7) (N := 48) hx hb hts inX7 hown hK hP 0 rfl rfl 26 (by decide) (hts _ wd_163) (fun _ h9 => h9) rfl dX7_doesProve_39 ?_
      refine lv_imul hx hb dX7_doesProve_42 ?_
      refine lv_topi (fun x_1744 ex_1744 => ?_)
      refine lv_icmp_ge (tgt := 50) hx hb dX7_doesProve_43 (by decide) (fun c_1745 => ?_) (fun c_1745 => ?_)
      · skip
        have gc_1745 := ti_le c_1745 rfl rfl
        refine lv_iconst (v := 0) hx hb dX7_doesProve_50 (by decide) ?_
        exact wq_z (v := 0) hx hb hr rfl 0 ⟨Or.inl rfl, trivial⟩ (fun t ht hW => ⟨f_1742, Bw.to hP hD hK ht hW⟩) hS dX7_doesProve_51 hlocks
      · skip
        have gc_1745 := ti_nle c_1745 rfl rfl
        refine lv_iconst (v := 1) hx hb dX7_doesProve_46 (by decide) ?_
        refine lv_goto (tgt := 51) hx hb dX7_doesProve_47 (by decide) ?_
        exact wq_z (v := 1) hx hb hr rfl 0 ⟨Or.inr rfl, trivial⟩ (fun t ht hW => ⟨f_1742, Bw.to hP hD hK ht hW⟩) hS dX7_doesProve_51 hlocks
  · skip
    have gc_1735 := ti_eq c_1735 rfl kc_0
    refine lv_aload_n hx hb dX7_doesProve_4 rfl (lv_at hl 0 rfl) ?_
    refine lv_iload_n hx hb dX7_doesProve_5 rfl (lv_at hl 1 rfl) ?_
    refine lv_iconst (v := 0) hx hb dX7_doesProve_6 (by decide) ?_
    have hFc := va_freeI hD hS hA
    refine va_calli (va_runV (As := [.int p0, .int 0]) (rest := []) ⟨hx, hb, hml, hown, hts⟩ (tX7_throneIf l dC dI _ oM iM_thrown rM_tape iM_taped iM_size iM_at iM_end iM_token iM_whole iM_nameSize iM_fault iM_place iM_trouble rM_letters iM_failed iM_hasCourt rM_r fM_r kM_r rM_fresh rM_told fM_told kM_told rM_read rM_st fM_st kM_st rM_undone rM_kept iM_undos iM_images rM_fresher iM_fresherSize iM_scale iM_night rM_heardRow rM_cutRow iM_breaths iM_cutMany iM_allBreaths rM_trial fM_trial kM_trial rM_words iM_fewestBreaths iM_orderMany iM_orderSum iM_leastOrder rM_often iM_setMany iM_someOf iM_allOf iM_allWeight iM_enoughWeight iM_worthSum iM_firstRest iM_leastDrawn p0 0 b_iM_taped b_iM_size b_iM_end b_iM_failed b_iM_hasCourt b_iM_undos b_iM_images b_iM_scale b_iM_breaths b_iM_cutMany (by assumption) (by assumption) (by assumption) (by assumption) (by assumption) ⟨hth.1, hth.2⟩) (cwV 2 hts (wd_V wd_975 wd_976 wd_977 wd_5 (wd_c wd_978)) rfl rfl rfl dv_yX7_throneIf_2 ⟨Nat.le_of_ble_eq_true rfl, Nat.le_of_ble_eq_true rfl⟩) ⟨Pw.fb, recvX7 hK hP (q0 := 0) rfl, fun U hU hW => Pw.to hP hD hK hE hS hFc hU hW⟩ rfl rfl hl.1 rfl (lv_room (Nat.le_of_ble_eq_true rfl)) dX7_doesProve_7 ⟨Nat.le_of_ble_eq_true rfl, Nat.le_of_ble_eq_true rfl⟩) hS (fun q _ h => hFc q h) hFc (fun r u t H locs ht hvm hw hB hz1 hk1 hS => ?_)
    refine ex_1_0 hB (fun f_1746 hB => ?_)
    obtain ⟨hP, hD⟩ := Bw.goA (ws' := [(oc7 oM iM_thrown rM_tape iM_taped iM_size iM_at iM_end iM_token iM_whole iM_nameSize iM_fault iM_place iM_trouble rM_letters iM_failed iM_hasCourt rM_r rM_fresh rM_told rM_read rM_st rM_undone rM_kept iM_undos iM_images rM_fresher iM_fresherSize iM_scale iM_night rM_heardRow rM_cutRow iM_breaths iM_cutMany iM_allBreaths rM_trial rM_words iM_fewestBreaths iM_orderMany iM_orderSum iM_leastOrder rM_often iM_setMany iM_someOf iM_allOf iM_allWeight iM_enoughWeight iM_worthSum iM_firstRest iM_leastDrawn), (arI rM_r kM_r 287 fM_r), (arI rM_told kM_told 90 fM_told), (arI rM_st kM_st 90 fM_st), (arI rM_trial kM_trial 90 f_1746)]) hB rfl ht hFc rfl
    clear hz1 hk1 hvm ht hB
    obtain ⟨x_1747, rfl⟩ : ∃ z, z = r := ⟨_, rfl⟩
    refine lv_iload_n hx hb dX7_doesProve_10 rfl (lv_at hl 3 rfl) ?_
    refine lv_aload_n hx hb dX7_doesProve_11 rfl (lv_at hl 0 rfl) ?_
    refine va_get (D := (dC, dI)) (ci := 7) (v := .int iM_scale) (C := RX7) (T := TX7) (N := 48) hx hb hts inX7 hown hK hP 0 rfl rfl 26 (by decide) (hts _ wd_163) (fun _ h9 => h9) rfl dX7_doesProve_12 ?_
    refine lv_imul hx hb dX7_doesProve_15 ?_
    refine lv_topi (fun x_1748 ex_1748 => ?_)
    refine lv_icmp_lt (tgt := 23) hx hb dX7_doesProve_16 (by decide) (fun c_1749 => ?_) (fun c_1749 => ?_)
    · skip
      have gc_1749 := ti_lt c_1749 rfl rfl
      refine lv_iconst (v := 0) hx hb dX7_doesProve_23 (by decide) ?_
      exact wq_z (v := 0) hx hb hr rfl 0 ⟨Or.inl rfl, trivial⟩ (fun t ht hW => ⟨f_1746, Bw.to hP hD hK ht hW⟩) hS dX7_doesProve_24 hlocks
    · skip
      have gc_1749 := ti_nlt c_1749 rfl rfl
      refine lv_iconst (v := 1) hx hb dX7_doesProve_19 (by decide) ?_
      refine lv_goto (tgt := 24) hx hb dX7_doesProve_20 (by decide) ?_
      exact wq_z (v := 1) hx hb hr rfl 0 ⟨Or.inr rfl, trivial⟩ (fun t ht hW => ⟨f_1746, Bw.to hP hD hK ht hW⟩) hS dX7_doesProve_24 hlocks
set_option maxHeartbeats 4000000 in
set_option maxRecDepth 100000 in
theorem tX7_fewestFor (l : Launch) (dC : Nat → ClassId) (dI : Nat → Nat → Nat) (sz : Nat) (oM : Nat) (iM_thrown : Int32) (rM_tape : Nat) (iM_taped : Int32) (iM_size : Int32) (iM_at : Int32) (iM_end : Int32) (iM_token : Int32) (iM_whole : Int32) (iM_nameSize : Int32) (iM_fault : Int32) (iM_place : Int32) (iM_trouble : Int32) (rM_letters : Nat) (iM_failed : Int32) (iM_hasCourt : Int32) (rM_r : Nat) (fM_r : Nat → Int32) (kM_r : ClassId) (rM_fresh : Nat) (rM_told : Nat) (fM_told : Nat → Int32) (kM_told : ClassId) (rM_read : Nat) (rM_st : Nat) (fM_st : Nat → Int32) (kM_st : ClassId) (rM_undone : Nat) (rM_kept : Nat) (iM_undos : Int32) (iM_images : Int32) (rM_fresher : Nat) (iM_fresherSize : Int32) (iM_scale : Int32) (iM_night : Int32) (rM_heardRow : Nat) (rM_cutRow : Nat) (iM_breaths : Int32) (iM_cutMany : Int32) (iM_allBreaths : Int32) (rM_trial : Nat) (fM_trial : Nat → Int32) (kM_trial : ClassId) (rM_words : Nat) (fM_words : Nat → Int32) (kM_words : ClassId) (iM_fewestBreaths : Int32) (iM_orderMany : Int32) (iM_orderSum : Int32) (iM_leastOrder : Int32) (rM_often : Nat) (iM_setMany : Int32) (iM_someOf : Int32) (iM_allOf : Int32) (iM_allWeight : Int64) (iM_enoughWeight : Int64) (iM_worthSum : Int64) (iM_firstRest : Int32) (iM_leastDrawn : Int32) (p0 : Int32) (p1 : Int32) (b_iM_taped : 0 ≤ iM_taped.toInt ∧ iM_taped.toInt ≤ 900) (b_iM_size : 0 ≤ iM_size.toInt ∧ iM_size.toInt ≤ 900) (b_iM_end : 0 ≤ iM_end.toInt ∧ iM_end.toInt ≤ 900) (b_iM_failed : 0 ≤ iM_failed.toInt ∧ iM_failed.toInt ≤ 1) (b_iM_hasCourt : 0 ≤ iM_hasCourt.toInt ∧ iM_hasCourt.toInt ≤ 1) (b_iM_undos : 0 ≤ iM_undos.toInt ∧ iM_undos.toInt ≤ 16) (b_iM_images : 0 ≤ iM_images.toInt ∧ iM_images.toInt ≤ 3) (b_iM_scale : 1 ≤ iM_scale.toInt ∧ iM_scale.toInt ≤ 1296) (b_iM_breaths : 0 ≤ iM_breaths.toInt ∧ iM_breaths.toInt ≤ 399) (b_iM_cutMany : 0 ≤ iM_cutMany.toInt ∧ iM_cutMany.toInt ≤ 399) (r_R : ROk fM_r) (r_C : iM_hasCourt.toInt ≤ 0 ∨ (1 ≤ (fM_r 1).toInt ∧ 0 ≤ (fM_r 6).toInt ∧ (fM_r 6).toInt < (fM_r 1).toInt)) (r_st : RowOk fM_r fM_st) (r_told : RowOk fM_r fM_told) (r_wst : WorOk fM_st) (hth : 0 ≤ (fM_r 6).toInt ∧ (fM_r 6).toInt < (fM_r 1).toInt) : Met l yX7_fewestFor (Cond.code yX7_fewestFor cX7_fewestFor 8 (some .int) :: wG) ({ frames := 24, cells := 0, slots := 0, locals := 631 }) (va_Pc [.ref oM, .int p0, .int p1] (Pw dC dI sz [(oc7 oM iM_thrown rM_tape iM_taped iM_size iM_at iM_end iM_token iM_whole iM_nameSize iM_fault iM_place iM_trouble rM_letters iM_failed iM_hasCourt rM_r rM_fresh rM_told rM_read rM_st rM_undone rM_kept iM_undos iM_images rM_fresher iM_fresherSize iM_scale iM_night rM_heardRow rM_cutRow iM_breaths iM_cutMany iM_allBreaths rM_trial rM_words iM_fewestBreaths iM_orderMany iM_orderSum iM_leastOrder rM_often iM_setMany iM_someOf iM_allOf iM_allWeight iM_enoughWeight iM_worthSum iM_firstRest iM_leastDrawn), (arI rM_r kM_r 287 fM_r), (arI rM_told kM_told 90 fM_told), (arI rM_st kM_st 90 fM_st), (arI rM_trial kM_trial 90 fM_trial), (arI rM_words kM_words 10 fM_words)] [(kM_r, .int), (kM_told, .int), (kM_st, .int), (kM_trial, .int), (kM_words, .int)])) (va_Qi (fun (r : Int32) (_ : Nat) => True ∧ True) (fun (_ : Nat) (t : State) => ∃ (nfM_trial : Nat → Int32) (nfM_words : Nat → Int32), Bw dC dI (va_A [(oc7 oM iM_thrown rM_tape iM_taped iM_size iM_at iM_end iM_token iM_whole iM_nameSize iM_fault iM_place iM_trouble rM_letters iM_failed iM_hasCourt rM_r rM_fresh rM_told rM_read rM_st rM_undone rM_kept iM_undos iM_images rM_fresher iM_fresherSize iM_scale iM_night rM_heardRow rM_cutRow iM_breaths iM_cutMany iM_allBreaths rM_trial rM_words iM_fewestBreaths iM_orderMany iM_orderSum iM_leastOrder rM_often iM_setMany iM_someOf iM_allOf iM_allWeight iM_enoughWeight iM_worthSum iM_firstRest iM_leastDrawn), (arI rM_r kM_r 287 fM_r), (arI rM_told kM_told 90 fM_told), (arI rM_st kM_st 90 fM_st), (arI rM_trial kM_trial 90 fM_trial), (arI rM_words kM_words 10 fM_words)] sz) [(oc7 oM iM_thrown rM_tape iM_taped iM_size iM_at iM_end iM_token iM_whole iM_nameSize iM_fault iM_place iM_trouble rM_letters iM_failed iM_hasCourt rM_r rM_fresh rM_told rM_read rM_st rM_undone rM_kept iM_undos iM_images rM_fresher iM_fresherSize iM_scale iM_night rM_heardRow rM_cutRow iM_breaths iM_cutMany iM_allBreaths rM_trial rM_words iM_fewestBreaths iM_orderMany iM_orderSum iM_leastOrder rM_often iM_setMany iM_someOf iM_allOf iM_allWeight iM_enoughWeight iM_worthSum iM_firstRest iM_leastDrawn), (arI rM_r kM_r 287 fM_r), (arI rM_told kM_told 90 fM_told), (arI rM_st kM_st 90 fM_st), (arI rM_trial kM_trial 90 nfM_trial), (arI rM_words kM_words 10 nfM_words)] [(kM_r, .int), (kM_told, .int), (kM_st, .int), (kM_trial, .int), (kM_words, .int)] t) (va_A [(oc7 oM iM_thrown rM_tape iM_taped iM_size iM_at iM_end iM_token iM_whole iM_nameSize iM_fault iM_place iM_trouble rM_letters iM_failed iM_hasCourt rM_r rM_fresh rM_told rM_read rM_st rM_undone rM_kept iM_undos iM_images rM_fresher iM_fresherSize iM_scale iM_night rM_heardRow rM_cutRow iM_breaths iM_cutMany iM_allBreaths rM_trial rM_words iM_fewestBreaths iM_orderMany iM_orderSum iM_leastOrder rM_often iM_setMany iM_someOf iM_allOf iM_allWeight iM_enoughWeight iM_worthSum iM_firstRest iM_leastDrawn), (arI rM_r kM_r 287 fM_r), (arI rM_told kM_told 90 fM_told), (arI rM_st kM_st 90 fM_st), (arI rM_trial kM_trial 90 fM_trial), (arI rM_words kM_words 10 fM_words)] sz)) 0 0 (va_A [(oc7 oM iM_thrown rM_tape iM_taped iM_size iM_at iM_end iM_token iM_whole iM_nameSize iM_fault iM_place iM_trouble rM_letters iM_failed iM_hasCourt rM_r rM_fresh rM_told rM_read rM_st rM_undone rM_kept iM_undos iM_images rM_fresher iM_fresherSize iM_scale iM_night rM_heardRow rM_cutRow iM_breaths iM_cutMany iM_allBreaths rM_trial rM_words iM_fewestBreaths iM_orderMany iM_orderSum iM_leastOrder rM_often iM_setMany iM_someOf iM_allOf iM_allWeight iM_enoughWeight iM_worthSum iM_firstRest iM_leastDrawn), (arI rM_r kM_r 287 fM_r), (arI rM_told kM_told 90 fM_told), (arI rM_st kM_st 90 fM_st), (arI rM_trial kM_trial 90 fM_trial), (arI rM_words kM_words 10 fM_words)] sz) := by
  refine Met.ofW (cc := cX7_fewestFor) (maxL := 8) (ret := (some .int)) pnX7 rfl ?_
  intro p e s m args below meth c s₁ B hml hv
  obtain ⟨rfl, hsz, hP, hK, hD0, hE⟩ := hv
  have hx := B.exec
  have hb := B.bytes
  have hr := B.returns
  have hts : ∀ w ∈ wG, w.before ([.ref oM, .int p0, .int p1] : List Value).toArray s = true := fun w h => atoms_spec (ws := Cond.code yX7_fewestFor cX7_fewestFor 8 (some .int) :: wG) B.pre w (List.mem_cons_of_mem _ h)
  have hown : s.vm.findClass RX7 = some m.cls := own_of B.named rfl
  have hlocks := B.notSynchronized
  subst hsz
  have hD := hD0.self (sz := s.heap.size)
  generalize hAe : va_A [(oc7 oM iM_thrown rM_tape iM_taped iM_size iM_at iM_end iM_token iM_whole iM_nameSize iM_fault iM_place iM_trouble rM_letters iM_failed iM_hasCourt rM_r rM_fresh rM_told rM_read rM_st rM_undone rM_kept iM_undos iM_images rM_fresher iM_fresherSize iM_scale iM_night rM_heardRow rM_cutRow iM_breaths iM_cutMany iM_allBreaths rM_trial rM_words iM_fewestBreaths iM_orderMany iM_orderSum iM_leastOrder rM_often iM_setMany iM_someOf iM_allOf iM_allWeight iM_enoughWeight iM_worthSum iM_firstRest iM_leastDrawn), (arI rM_r kM_r 287 fM_r), (arI rM_told kM_told 90 fM_told), (arI rM_st kM_st 90 fM_st), (arI rM_trial kM_trial 90 fM_trial), (arI rM_words kM_words 10 fM_words)] s.heap.size = A at hD hE ⊢
  have hA : ∀ q : Nat, s.heap.size ≤ q → A q := fun q h => by rw [← hAe]; exact Or.inr h
  have hS : va_S A s.heap s.heap [] := va_S.rf
  have hl := lv_entry ([.ref oM, .int p0, .int p1]) (n := 8) (Nat.le_of_ble_eq_true rfl)
  rw [lg_entry_eq]
  generalize (lg_sl ([.ref oM, .int p0, .int p1]) ++ List.replicate (8 - (lg_sl ([.ref oM, .int p0, .int p1])).length) Slot.unset).toArray = ls at hl ⊢
  have hl : lv_has ls 8 [(0, .ref oM), (1, .int p0), (2, .int p1)] := hl
  have rg_p0 := fb_rng p0
  have rg_p1 := fb_rng p1
  have s_slips := r_R.slips
  have s_nodes := r_R.nodes
  have s_uns := r_R.uns
  refine lv_iconst (v := 0) hx hb dX7_fewestFor_0 (by decide) ?_
  refine lv_istore_n (lv' := [(3, .int 0), (0, .ref oM), (1, .int p0), (2, .int p1)]) hx hb dX7_fewestFor_1 rfl hl (by decide) rfl (fun ls hl => ?_)
  refine lv_iconst (v := 0) hx hb dX7_fewestFor_2 (by decide) ?_
  refine lv_istore (lv' := [(4, .int 0), (3, .int 0), (0, .ref oM), (1, .int p0), (2, .int p1)]) hx hb dX7_fewestFor_3 hl (by decide) rfl (fun ls hl => ?_)
  have hl := lv_sub hl (l' := [(4, .int 0), (3, .int 0), (0, .ref oM), (1, .int p0), (2, .int p1)]) [0, 1, 2, 3, 4] rfl
  have key_n_1875 : ∀ (n_1875 : Nat) (z_1872 : Int32) (z_1873 : Int32) (f_1874 : Nat → Int32) (H : Heap) (locs : List Loc) (ls : Array Slot), (0 ≤ z_1872.toInt ∧ z_1872.toInt ≤ (fM_r 1).toInt) → (z_1873.toInt = (cntP (fun k => (fM_r (9 + k)).toInt = 0) (z_1872.toNatClampNeg) : Int)) → ((fM_r 1).toInt - z_1872.toInt).toNat < n_1875 → va_P (dC, dI) vwCl [(oc7 oM iM_thrown rM_tape iM_taped iM_size iM_at iM_end iM_token iM_whole iM_nameSize iM_fault iM_place iM_trouble rM_letters iM_failed iM_hasCourt rM_r rM_fresh rM_told rM_read rM_st rM_undone rM_kept iM_undos iM_images rM_fresher iM_fresherSize iM_scale iM_night rM_heardRow rM_cutRow iM_breaths iM_cutMany iM_allBreaths rM_trial rM_words iM_fewestBreaths iM_orderMany iM_orderSum iM_leastOrder rM_often iM_setMany iM_someOf iM_allOf iM_allWeight iM_enoughWeight iM_worthSum iM_firstRest iM_leastDrawn), (arI rM_r kM_r 287 fM_r), (arI rM_told kM_told 90 fM_told), (arI rM_st kM_st 90 fM_st), (arI rM_trial kM_trial 90 fM_trial), (arI rM_words kM_words 10 f_1874)] H → va_D A [(oc7 oM iM_thrown rM_tape iM_taped iM_size iM_at iM_end iM_token iM_whole iM_nameSize iM_fault iM_place iM_trouble rM_letters iM_failed iM_hasCourt rM_r rM_fresh rM_told rM_read rM_st rM_undone rM_kept iM_undos iM_images rM_fresher iM_fresherSize iM_scale iM_night rM_heardRow rM_cutRow iM_breaths iM_cutMany iM_allBreaths rM_trial rM_words iM_fewestBreaths iM_orderMany iM_orderSum iM_leastOrder rM_often iM_setMany iM_someOf iM_allOf iM_allWeight iM_enoughWeight iM_worthSum iM_firstRest iM_leastDrawn), (arI rM_r kM_r 287 fM_r), (arI rM_told kM_told 90 fM_told), (arI rM_st kM_st 90 fM_st), (arI rM_trial kM_trial 90 fM_trial), (arI rM_words kM_words 10 f_1874)] → va_S A s.heap H locs → lv_has ls 8 [(4, .int z_1872), (3, .int z_1873), (0, .ref oM), (1, .int p0), (2, .int p1)] → W p l e (headSpec (Cond.code yX7_fewestFor cX7_fewestFor 8 (some .int) :: wG) ({ frames := 24, cells := 0, slots := 0, locals := 631 })).room s m ([.ref oM, .int p0, .int p1] : List Value).toArray below meth c H locs 0 0 (MQ below (va_Qi (fun (r : Int32) (_ : Nat) => True ∧ True) (fun (_ : Nat) (t : State) => ∃ (nfM_trial : Nat → Int32) (nfM_words : Nat → Int32), Bw dC dI A [(oc7 oM iM_thrown rM_tape iM_taped iM_size iM_at iM_end iM_token iM_whole iM_nameSize iM_fault iM_place iM_trouble rM_letters iM_failed iM_hasCourt rM_r rM_fresh rM_told rM_read rM_st rM_undone rM_kept iM_undos iM_images rM_fresher iM_fresherSize iM_scale iM_night rM_heardRow rM_cutRow iM_breaths iM_cutMany iM_allBreaths rM_trial rM_words iM_fewestBreaths iM_orderMany iM_orderSum iM_leastOrder rM_often iM_setMany iM_someOf iM_allOf iM_allWeight iM_enoughWeight iM_worthSum iM_firstRest iM_leastDrawn), (arI rM_r kM_r 287 fM_r), (arI rM_told kM_told 90 fM_told), (arI rM_st kM_st 90 fM_st), (arI rM_trial kM_trial 90 nfM_trial), (arI rM_words kM_words 10 nfM_words)] [(kM_r, .int), (kM_told, .int), (kM_st, .int), (kM_trial, .int), (kM_words, .int)] t) A) ([.ref oM, .int p0, .int p1] : List Value).toArray s 0 0 A) (F0 m 5 ls []) := by
    intro n_1875
    induction n_1875 with
    | zero => intro z_1872 z_1873 f_1874 H locs ls hi0_n_1875 hi1_n_1875 hm; exact absurd hm (Nat.not_lt_zero _)
    | succ n_1875 ih_n_1875 =>
      intro z_1872 z_1873 f_1874 H locs ls hi0_n_1875 hi1_n_1875 hm_n_1875 hP hD hS hl
      have rg_z_1872 := fb_rng z_1872
      have rg_z_1873 := fb_rng z_1873
      have cb_z_1872 := r_R.cw z_1872.toNatClampNeg (by have q1 := ti_cl (x := z_1872) rfl (by omega); omega)
      refine lv_iload hx hb dX7_fewestFor_5 (lv_at hl 0 rfl) ?_
      refine lv_aload_n hx hb dX7_fewestFor_7 rfl (lv_at hl 2 rfl) ?_
      refine va_get (D := (dC, dI)) (ci := 7) (v := .ref rM_r) (C := RX7) (T := TX7) (N := 48) hx hb hts inX7 hown hK hP 0 rfl rfl 15 (by decide) (hts _ wd_155) (fun _ h9 => h9) rfl dX7_fewestFor_8 ?_
      refine lv_iconst (v := 1) hx hb dX7_fewestFor_11 (by decide) ?_
      refine va_iald hx hb hK hP 1 0 rfl rfl (by unfold vp_in; decide) dX7_fewestFor_12 ?_
      refine lv_topi (fun x_1876 ex_1876 => ?_)
      have rg_x_1876 := fb_rng x_1876
      have cx_1876 : (fM_r 1).toInt = x_1876.toInt := congrArg Int32.toInt (show fM_r 1 = x_1876 from ex_1876.symm)
      have sx_1876 := r_R.nodes
      refine lv_icmp_ge (tgt := 49) hx hb dX7_fewestFor_13 (by decide) (fun c_1877 => ?_) (fun c_1877 => ?_)
      · skip
        have gc_1877 := ti_le c_1877 rfl rfl
        refine lv_bipush (v := (-2)) hx hb dX7_fewestFor_49 (by decide) ?_
        refine lv_istore (lv' := [(4, .int (-2)), (3, .int z_1873), (0, .ref oM), (1, .int p0), (2, .int p1)]) hx hb dX7_fewestFor_51 hl (by decide) rfl (fun ls hl => ?_)
        refine lv_iconst (v := 0) hx hb dX7_fewestFor_53 (by decide) ?_
        refine lv_istore (lv' := [(5, .int 0), (4, .int (-2)), (3, .int z_1873), (0, .ref oM), (1, .int p0), (2, .int p1)]) hx hb dX7_fewestFor_54 hl (by decide) rfl (fun ls hl => ?_)
        have hl := lv_sub hl (l' := [(5, .int 0), (4, .int (-2)), (3, .int z_1873), (0, .ref oM), (1, .int p0), (2, .int p1)]) [0, 1, 2, 3, 4, 5] rfl
        have key_n_1881 : ∀ (n_1881 : Nat) (z_1878 : Int32) (z_1879 : Int32) (f_1880 : Nat → Int32) (H : Heap) (locs : List Loc) (ls : Array Slot), (0 ≤ z_1878.toInt ∧ z_1878.toInt ≤ 2147483647) → (2147483647 - z_1878.toInt).toNat < n_1881 → va_P (dC, dI) vwCl [(oc7 oM iM_thrown rM_tape iM_taped iM_size iM_at iM_end iM_token iM_whole iM_nameSize iM_fault iM_place iM_trouble rM_letters iM_failed iM_hasCourt rM_r rM_fresh rM_told rM_read rM_st rM_undone rM_kept iM_undos iM_images rM_fresher iM_fresherSize iM_scale iM_night rM_heardRow rM_cutRow iM_breaths iM_cutMany iM_allBreaths rM_trial rM_words iM_fewestBreaths iM_orderMany iM_orderSum iM_leastOrder rM_often iM_setMany iM_someOf iM_allOf iM_allWeight iM_enoughWeight iM_worthSum iM_firstRest iM_leastDrawn), (arI rM_r kM_r 287 fM_r), (arI rM_told kM_told 90 fM_told), (arI rM_st kM_st 90 fM_st), (arI rM_trial kM_trial 90 f_1880), (arI rM_words kM_words 10 f_1874)] H → va_D A [(oc7 oM iM_thrown rM_tape iM_taped iM_size iM_at iM_end iM_token iM_whole iM_nameSize iM_fault iM_place iM_trouble rM_letters iM_failed iM_hasCourt rM_r rM_fresh rM_told rM_read rM_st rM_undone rM_kept iM_undos iM_images rM_fresher iM_fresherSize iM_scale iM_night rM_heardRow rM_cutRow iM_breaths iM_cutMany iM_allBreaths rM_trial rM_words iM_fewestBreaths iM_orderMany iM_orderSum iM_leastOrder rM_often iM_setMany iM_someOf iM_allOf iM_allWeight iM_enoughWeight iM_worthSum iM_firstRest iM_leastDrawn), (arI rM_r kM_r 287 fM_r), (arI rM_told kM_told 90 fM_told), (arI rM_st kM_st 90 fM_st), (arI rM_trial kM_trial 90 f_1880), (arI rM_words kM_words 10 f_1874)] → va_S A s.heap H locs → lv_has ls 8 [(5, .int z_1878), (4, .int z_1879), (3, .int z_1873), (0, .ref oM), (1, .int p0), (2, .int p1)] → W p l e (headSpec (Cond.code yX7_fewestFor cX7_fewestFor 8 (some .int) :: wG) ({ frames := 24, cells := 0, slots := 0, locals := 631 })).room s m ([.ref oM, .int p0, .int p1] : List Value).toArray below meth c H locs 0 0 (MQ below (va_Qi (fun (r : Int32) (_ : Nat) => True ∧ True) (fun (_ : Nat) (t : State) => ∃ (nfM_trial : Nat → Int32) (nfM_words : Nat → Int32), Bw dC dI A [(oc7 oM iM_thrown rM_tape iM_taped iM_size iM_at iM_end iM_token iM_whole iM_nameSize iM_fault iM_place iM_trouble rM_letters iM_failed iM_hasCourt rM_r rM_fresh rM_told rM_read rM_st rM_undone rM_kept iM_undos iM_images rM_fresher iM_fresherSize iM_scale iM_night rM_heardRow rM_cutRow iM_breaths iM_cutMany iM_allBreaths rM_trial rM_words iM_fewestBreaths iM_orderMany iM_orderSum iM_leastOrder rM_often iM_setMany iM_someOf iM_allOf iM_allWeight iM_enoughWeight iM_worthSum iM_firstRest iM_leastDrawn), (arI rM_r kM_r 287 fM_r), (arI rM_told kM_told 90 fM_told), (arI rM_st kM_st 90 fM_st), (arI rM_trial kM_trial 90 nfM_trial), (arI rM_words kM_words 10 nfM_words)] [(kM_r, .int), (kM_told, .int), (kM_st, .int), (kM_trial, .int), (kM_words, .int)] t) A) ([.ref oM, .int p0, .int p1] : List Value).toArray s 0 0 A) (F0 m 56 ls []) := by
          intro n_1881
          induction n_1881 with
          | zero => intro z_1878 z_1879 f_1880 H locs ls hi0_n_1881 hm; exact absurd hm (Nat.not_lt_zero _)
          | succ n_1881 ih_n_1881 =>
            intro z_1878 z_1879 f_1880 H locs ls hi0_n_1881 hm_n_1881 hP hD hS hl
            have rg_z_1878 := fb_rng z_1878
            have rg_z_1879 := fb_rng z_1879
            refine lv_iload hx hb dX7_fewestFor_56 (lv_at hl 0 rfl) ?_
            refine lv_iconst (v := 1) hx hb dX7_fewestFor_58 (by decide) ?_
            refine lv_iload_n hx hb dX7_fewestFor_59 rfl (lv_at hl 2 rfl) ?_
            refine lv_ishl hx hb dX7_fewestFor_60 ?_
            refine lv_topi (fun x_1882 ex_1882 => ?_)
            have rg_x_1882 := fb_rng x_1882
            refine lv_icmp_ge (tgt := 152) hx hb dX7_fewestFor_61 (by decide) (fun c_1883 => ?_) (fun c_1883 => ?_)
            · skip
              have gc_1883 := ti_le c_1883 rfl rfl
              refine lv_iload hx hb dX7_fewestFor_152 (lv_at hl 1 rfl) ?_
              exact wq_i hx hb hr 0 ⟨trivial, trivial⟩ (fun t ht hW => ⟨f_1880, f_1874, Bw.to hP hD hK ht hW⟩) hS dX7_fewestFor_154 hlocks
            · skip
              have gc_1883 := ti_nle c_1883 rfl rfl
              refine lv_iload hx hb dX7_fewestFor_64 (lv_at hl 1 rfl) ?_
              refine lv_if_lt (tgt := 85) hx hb dX7_fewestFor_66 (by decide) (fun c_1884 => ?_) (fun c_1884 => ?_)
              · skip
                have gc_1884 := ti_lt c_1884 rfl kc_0
                refine lv_iconst (v := 0) hx hb dX7_fewestFor_85 (by decide) ?_
                refine lv_istore (lv' := [(6, .int 0), (5, .int z_1878), (4, .int z_1879), (3, .int z_1873), (0, .ref oM), (1, .int p0), (2, .int p1)]) hx hb dX7_fewestFor_86 hl (by decide) rfl (fun ls hl => ?_)
                refine lv_iconst (v := 0) hx hb dX7_fewestFor_88 (by decide) ?_
                refine lv_istore (lv' := [(7, .int 0), (6, .int 0), (5, .int z_1878), (4, .int z_1879), (3, .int z_1873), (0, .ref oM), (1, .int p0), (2, .int p1)]) hx hb dX7_fewestFor_89 hl (by decide) rfl (fun ls hl => ?_)
                have hl := lv_sub hl (l' := [(7, .int 0), (6, .int 0), (5, .int z_1878), (4, .int z_1879), (3, .int z_1873), (0, .ref oM), (1, .int p0), (2, .int p1)]) [0, 1, 2, 3, 4, 5, 6, 7] rfl
                have key_n_1887 : ∀ (n_1887 : Nat) (z_1885 : Int32) (z_1886 : Int32) (H : Heap) (locs : List Loc) (ls : Array Slot), (0 ≤ z_1885.toInt ∧ z_1885.toInt ≤ 2147483647) → (2147483647 - z_1885.toInt).toNat < n_1887 → va_P (dC, dI) vwCl [(oc7 oM iM_thrown rM_tape iM_taped iM_size iM_at iM_end iM_token iM_whole iM_nameSize iM_fault iM_place iM_trouble rM_letters iM_failed iM_hasCourt rM_r rM_fresh rM_told rM_read rM_st rM_undone rM_kept iM_undos iM_images rM_fresher iM_fresherSize iM_scale iM_night rM_heardRow rM_cutRow iM_breaths iM_cutMany iM_allBreaths rM_trial rM_words iM_fewestBreaths iM_orderMany iM_orderSum iM_leastOrder rM_often iM_setMany iM_someOf iM_allOf iM_allWeight iM_enoughWeight iM_worthSum iM_firstRest iM_leastDrawn), (arI rM_r kM_r 287 fM_r), (arI rM_told kM_told 90 fM_told), (arI rM_st kM_st 90 fM_st), (arI rM_trial kM_trial 90 f_1880), (arI rM_words kM_words 10 f_1874)] H → va_D A [(oc7 oM iM_thrown rM_tape iM_taped iM_size iM_at iM_end iM_token iM_whole iM_nameSize iM_fault iM_place iM_trouble rM_letters iM_failed iM_hasCourt rM_r rM_fresh rM_told rM_read rM_st rM_undone rM_kept iM_undos iM_images rM_fresher iM_fresherSize iM_scale iM_night rM_heardRow rM_cutRow iM_breaths iM_cutMany iM_allBreaths rM_trial rM_words iM_fewestBreaths iM_orderMany iM_orderSum iM_leastOrder rM_often iM_setMany iM_someOf iM_allOf iM_allWeight iM_enoughWeight iM_worthSum iM_firstRest iM_leastDrawn), (arI rM_r kM_r 287 fM_r), (arI rM_told kM_told 90 fM_told), (arI rM_st kM_st 90 fM_st), (arI rM_trial kM_trial 90 f_1880), (arI rM_words kM_words 10 f_1874)] → va_S A s.heap H locs → lv_has ls 8 [(7, .int z_1885), (6, .int z_1886), (5, .int z_1878), (4, .int z_1879), (3, .int z_1873), (0, .ref oM), (1, .int p0), (2, .int p1)] → W p l e (headSpec (Cond.code yX7_fewestFor cX7_fewestFor 8 (some .int) :: wG) ({ frames := 24, cells := 0, slots := 0, locals := 631 })).room s m ([.ref oM, .int p0, .int p1] : List Value).toArray below meth c H locs 0 0 (MQ below (va_Qi (fun (r : Int32) (_ : Nat) => True ∧ True) (fun (_ : Nat) (t : State) => ∃ (nfM_trial : Nat → Int32) (nfM_words : Nat → Int32), Bw dC dI A [(oc7 oM iM_thrown rM_tape iM_taped iM_size iM_at iM_end iM_token iM_whole iM_nameSize iM_fault iM_place iM_trouble rM_letters iM_failed iM_hasCourt rM_r rM_fresh rM_told rM_read rM_st rM_undone rM_kept iM_undos iM_images rM_fresher iM_fresherSize iM_scale iM_night rM_heardRow rM_cutRow iM_breaths iM_cutMany iM_allBreaths rM_trial rM_words iM_fewestBreaths iM_orderMany iM_orderSum iM_leastOrder rM_often iM_setMany iM_someOf iM_allOf iM_allWeight iM_enoughWeight iM_worthSum iM_firstRest iM_leastDrawn), (arI rM_r kM_r 287 fM_r), (arI rM_told kM_told 90 fM_told), (arI rM_st kM_st 90 fM_st), (arI rM_trial kM_trial 90 nfM_trial), (arI rM_words kM_words 10 nfM_words)] [(kM_r, .int), (kM_told, .int), (kM_st, .int), (kM_trial, .int), (kM_words, .int)] t) A) ([.ref oM, .int p0, .int p1] : List Value).toArray s 0 0 A) (F0 m 91 ls []) := by
                  intro n_1887
                  induction n_1887 with
                  | zero => intro z_1885 z_1886 H locs ls hi0_n_1887 hm; exact absurd hm (Nat.not_lt_zero _)
                  | succ n_1887 ih_n_1887 =>
                    intro z_1885 z_1886 H locs ls hi0_n_1887 hm_n_1887 hP hD hS hl
                    have rg_z_1885 := fb_rng z_1885
                    have rg_z_1886 := fb_rng z_1886
                    refine lv_iload hx hb dX7_fewestFor_91 (lv_at hl 0 rfl) ?_
                    refine lv_iload_n hx hb dX7_fewestFor_93 rfl (lv_at hl 4 rfl) ?_
                    refine lv_icmp_ge (tgt := 131) hx hb dX7_fewestFor_94 (by decide) (fun c_1888 => ?_) (fun c_1888 => ?_)
                    · skip
                      have gc_1888 := ti_le c_1888 rfl rfl
                      refine lv_aload_n hx hb dX7_fewestFor_131 rfl (lv_at hl 5 rfl) ?_
                      refine lv_iload hx hb dX7_fewestFor_132 (lv_at hl 1 rfl) ?_
                      refine lv_iload_n hx hb dX7_fewestFor_134 rfl (lv_at hl 6 rfl) ?_
                      refine lv_iload_n hx hb dX7_fewestFor_135 rfl (lv_at hl 7 rfl) ?_
                      have hMs := ml_of hD [true, true, true, true, true, false] (wc := [(oc7 oM iM_thrown rM_tape iM_taped iM_size iM_at iM_end iM_token iM_whole iM_nameSize iM_fault iM_place iM_trouble rM_letters iM_failed iM_hasCourt rM_r rM_fresh rM_told rM_read rM_st rM_undone rM_kept iM_undos iM_images rM_fresher iM_fresherSize iM_scale iM_night rM_heardRow rM_cutRow iM_breaths iM_cutMany iM_allBreaths rM_trial rM_words iM_fewestBreaths iM_orderMany iM_orderSum iM_leastOrder rM_often iM_setMany iM_someOf iM_allOf iM_allWeight iM_enoughWeight iM_worthSum iM_firstRest iM_leastDrawn), (arI rM_r kM_r 287 fM_r), (arI rM_told kM_told 90 fM_told), (arI rM_st kM_st 90 fM_st), (arI rM_trial kM_trial 90 f_1880)]) rfl
                      have hFc := va_freeM hD hS hA _ hMs
                      refine va_calli (va_runV (As := [.int z_1886, .int p0, .int p1]) (rest := []) ⟨hx, hb, hml, hown, hts⟩ (tX7_doesProve l dC dI _ oM iM_thrown rM_tape iM_taped iM_size iM_at iM_end iM_token iM_whole iM_nameSize iM_fault iM_place iM_trouble rM_letters iM_failed iM_hasCourt rM_r fM_r kM_r rM_fresh rM_told fM_told kM_told rM_read rM_st fM_st kM_st rM_undone rM_kept iM_undos iM_images rM_fresher iM_fresherSize iM_scale iM_night rM_heardRow rM_cutRow iM_breaths iM_cutMany iM_allBreaths rM_trial f_1880 kM_trial rM_words iM_fewestBreaths iM_orderMany iM_orderSum iM_leastOrder rM_often iM_setMany iM_someOf iM_allOf iM_allWeight iM_enoughWeight iM_worthSum iM_firstRest iM_leastDrawn z_1886 p0 p1 b_iM_taped b_iM_size b_iM_end b_iM_failed b_iM_hasCourt b_iM_undos b_iM_images b_iM_scale b_iM_breaths b_iM_cutMany (by assumption) (by assumption) (by assumption) (by assumption) (by assumption) ⟨hth.1, hth.2⟩) (cwV 3 hts (wd_V wd_971 wd_972 wd_973 wd_5 (wd_c wd_974)) rfl rfl rfl dv_yX7_doesProve_3 ⟨Nat.le_of_ble_eq_true rfl, Nat.le_of_ble_eq_true rfl⟩) ⟨Pw.fb, recvX7 hK hP (q0 := 0) rfl, fun U hU hW => Pw.to (hP.ms _ hMs) (hD.ms _ hMs) (hK.ms [true, true, true, true, false] rfl) hE hS hFc hU hW⟩ rfl rfl hl.1 rfl (lv_room (Nat.le_of_ble_eq_true rfl)) dX7_fewestFor_136 ⟨Nat.le_of_ble_eq_true rfl, Nat.le_of_ble_eq_true rfl⟩) hS (fun q _ h => hFc q h) hFc (fun r u t H locs ht hvm hw hB hz1 hk1 hS => ?_)
                      refine ex_1_0 hB (fun f_1889 hB => ?_)
                      obtain ⟨hP, hD⟩ := Bw.goN (ws' := [(oc7 oM iM_thrown rM_tape iM_taped iM_size iM_at iM_end iM_token iM_whole iM_nameSize iM_fault iM_place iM_trouble rM_letters iM_failed iM_hasCourt rM_r rM_fresh rM_told rM_read rM_st rM_undone rM_kept iM_undos iM_images rM_fresher iM_fresherSize iM_scale iM_night rM_heardRow rM_cutRow iM_breaths iM_cutMany iM_allBreaths rM_trial rM_words iM_fewestBreaths iM_orderMany iM_orderSum iM_leastOrder rM_often iM_setMany iM_someOf iM_allOf iM_allWeight iM_enoughWeight iM_worthSum iM_firstRest iM_leastDrawn), (arI rM_r kM_r 287 fM_r), (arI rM_told kM_told 90 fM_told), (arI rM_st kM_st 90 fM_st), (arI rM_trial kM_trial 90 f_1889), (arI rM_words kM_words 10 f_1874)]) hB rfl ht hP hD _ hMs hk1 hFc rfl
                      clear hz1 hk1 hvm ht hB hMs
                      obtain ⟨x_1890, rfl⟩ : ∃ z, z = r := ⟨_, rfl⟩
                      have rg_x_1890 := fb_rng x_1890
                      have bx_1890 := hw.1
                      have dx_1890 := bz_tb bx_1890
                      refine lv_if_eq (tgt := 146) hx hb dX7_fewestFor_139 (by decide) (fun c_1891 => ?_) (fun c_1891 => ?_)
                      · skip
                        have gc_1891 := ti_eq c_1891 rfl kc_0
                        obtain ⟨x_1892, ex_1892⟩ : ∃ z : Int32, z = z_1878 + Int32.ofInt 1 := ⟨_, rfl⟩
                        have vx_1892 : x_1892.toInt = z_1878.toInt + 1 := ti_add (y := 1) ex_1892 rfl kc_1 (om_4e4fce7e hi0_n_1881.1) (om_219cd8d8 rg_x_1882.2 gc_1883)
                        refine lv_iinc (v := x_1892) (lv' := [(5, .int x_1892), (7, .int z_1885), (6, .int z_1886), (4, .int z_1879), (3, .int z_1873), (0, .ref oM), (1, .int p0), (2, .int p1)]) hx hb dX7_fewestFor_146 hl (k := 2) rfl ex_1892.symm (by decide) rfl (fun ls hl => ?_)
                        refine lv_goto (tgt := 56) hx hb dX7_fewestFor_149 (by decide) ?_
                        exact ih_n_1881 x_1892 z_1879 f_1889 _ _ _  ⟨(om_83b90de5 hi0_n_1881.1 vx_1892), (om_5c6bfac3 rg_x_1882.2 gc_1883 vx_1892)⟩ (ms_lt hm_n_1881 (om_b9393183 vx_1892) (om_bc4d5040 rg_x_1882.2 gc_1883)) hP hD hS (lv_sub hl [0, 3, 4, 5, 6, 7] rfl)
                      · skip
                        have gc_1891 := ti_ne c_1891 rfl kc_0
                        refine lv_iload hx hb dX7_fewestFor_142 (lv_at hl 1 rfl) ?_
                        refine lv_istore (lv' := [(4, .int z_1886), (7, .int z_1885), (6, .int z_1886), (5, .int z_1878), (3, .int z_1873), (0, .ref oM), (1, .int p0), (2, .int p1)]) hx hb dX7_fewestFor_144 hl (by decide) rfl (fun ls hl => ?_)
                        obtain ⟨x_1893, ex_1893⟩ : ∃ z : Int32, z = z_1878 + Int32.ofInt 1 := ⟨_, rfl⟩
                        have vx_1893 : x_1893.toInt = z_1878.toInt + 1 := ti_add (y := 1) ex_1893 rfl kc_1 (om_4e4fce7e hi0_n_1881.1) (om_219cd8d8 rg_x_1882.2 gc_1883)
                        refine lv_iinc (v := x_1893) (lv' := [(5, .int x_1893), (4, .int z_1886), (7, .int z_1885), (6, .int z_1886), (3, .int z_1873), (0, .ref oM), (1, .int p0), (2, .int p1)]) hx hb dX7_fewestFor_146 hl (k := 3) rfl ex_1893.symm (by decide) rfl (fun ls hl => ?_)
                        refine lv_goto (tgt := 56) hx hb dX7_fewestFor_149 (by decide) ?_
                        exact ih_n_1881 x_1893 z_1886 f_1889 _ _ _  ⟨(om_83b90de5 hi0_n_1881.1 vx_1893), (om_5c6bfac3 rg_x_1882.2 gc_1883 vx_1893)⟩ (ms_lt hm_n_1881 (om_b9393183 vx_1893) (om_bc4d5040 rg_x_1882.2 gc_1883)) hP hD hS (lv_sub hl [0, 1, 4, 5, 6, 7] rfl)
                    · skip
                      have gc_1888 := ti_nle c_1888 rfl rfl
                      refine lv_iload hx hb dX7_fewestFor_97 (lv_at hl 1 rfl) ?_
                      refine lv_iload hx hb dX7_fewestFor_99 (lv_at hl 2 rfl) ?_
                      refine lv_iload hx hb dX7_fewestFor_101 (lv_at hl 0 rfl) ?_
                      have hFc : ∀ q, va_A [] _ q → A q := fun q h => hA q (Nat.le_trans hS.1 (va_nilA h))
                      refine va_calli (va_runS (As := [.int z_1878, .int z_1885]) (rest := [.int z_1886]) ⟨hx, hb, hml, hown, hts⟩ (tX7_hasBit l dC dI _ z_1878 z_1885 ) (va_cwS 2 hts (wd_S wd_968 wd_969 wd_5 (wd_c wd_970)) rfl rfl rfl ds_yX7_hasBit_2 ⟨Nat.le_of_ble_eq_true rfl, Nat.le_of_ble_eq_true rfl⟩) ⟨Pw.fb, fun U hU hW => Pn.to hK hE hS hA hU hW⟩ rfl rfl hl.1 rfl (lv_room (Nat.le_of_ble_eq_true rfl)) dX7_fewestFor_103 ⟨Nat.le_of_ble_eq_true rfl, Nat.le_of_ble_eq_true rfl⟩) hS (fun q _ h => hFc q h) hFc (fun r u t H locs ht hvm hw hB hz1 hk1 hS => ?_)
                      obtain ⟨hP, hD, hK⟩ := Bw.same ht hvm hP hD hK hk1 hFc
                      clear hz1 hk1 hvm ht hB
                      have hq9 := hw.2
                      have hw := hw.1
                      obtain ⟨x_1894, rfl⟩ : ∃ z, z = r := ⟨_, rfl⟩
                      have rg_x_1894 := fb_rng x_1894
                      have bx_1894 := hw.1
                      have dx_1894 := bz_tb bx_1894
                      refine lv_if_eq (tgt := 121) hx hb dX7_fewestFor_106 (by decide) (fun c_1895 => ?_) (fun c_1895 => ?_)
                      · skip
                        have gc_1895 := ti_eq c_1895 rfl kc_0
                        refine lv_iconst (v := 0) hx hb dX7_fewestFor_121 (by decide) ?_
                        refine lv_ior hx hb dX7_fewestFor_122 ?_
                        refine lv_topi (fun x_1896 ex_1896 => ?_)
                        have rg_x_1896 := fb_rng x_1896
                        refine lv_istore (lv' := [(6, .int x_1896), (7, .int z_1885), (5, .int z_1878), (4, .int z_1879), (3, .int z_1873), (0, .ref oM), (1, .int p0), (2, .int p1)]) hx hb dX7_fewestFor_123 hl (by decide) rfl (fun ls hl => ?_)
                        obtain ⟨x_1897, ex_1897⟩ : ∃ z : Int32, z = z_1885 + Int32.ofInt 1 := ⟨_, rfl⟩
                        have vx_1897 : x_1897.toInt = z_1885.toInt + 1 := ti_add (y := 1) ex_1897 rfl kc_1 (om_4e4fce7e hi0_n_1887.1) (om_219cd8d8 rg_z_1873.2 gc_1888)
                        refine lv_iinc (v := x_1897) (lv' := [(7, .int x_1897), (6, .int x_1896), (5, .int z_1878), (4, .int z_1879), (3, .int z_1873), (0, .ref oM), (1, .int p0), (2, .int p1)]) hx hb dX7_fewestFor_125 hl (k := 1) rfl ex_1897.symm (by decide) rfl (fun ls hl => ?_)
                        refine lv_goto (tgt := 91) hx hb dX7_fewestFor_128 (by decide) ?_
                        exact ih_n_1887 x_1897 x_1896 _ _ _  ⟨(om_83b90de5 hi0_n_1887.1 vx_1897), (om_5c6bfac3 rg_z_1873.2 gc_1888 vx_1897)⟩ (ms_lt hm_n_1887 (om_b9393183 vx_1897) (om_bc4d5040 rg_z_1873.2 gc_1888)) hP hD hS (lv_sub hl [0, 1, 2, 3, 4, 5, 6, 7] rfl)
                      · skip
                        have gc_1895 := ti_ne c_1895 rfl kc_0
                        refine lv_iconst (v := 1) hx hb dX7_fewestFor_109 (by decide) ?_
                        refine lv_aload_n hx hb dX7_fewestFor_110 rfl (lv_at hl 5 rfl) ?_
                        refine va_get (D := (dC, dI)) (ci := 7) (v := .ref rM_words) (C := RX7) (T := TX7) (N := 48) hx hb hts inX7 hown hK hP 0 rfl rfl 34 (by decide) (hts _ wd_168) (fun _ h9 => h9) rfl dX7_fewestFor_111 ?_
                        refine lv_iload hx hb dX7_fewestFor_114 (lv_at hl 0 rfl) ?_
                        refine va_iald hx hb hK hP 5 4 rfl rfl (ti_in rfl hi0_n_1887.1 (by omega)) dX7_fewestFor_116 ?_
                        refine lv_topi (fun x_1898 ex_1898 => ?_)
                        have rg_x_1898 := fb_rng x_1898
                        have kx_1898 : (f_1874 z_1885.toNatClampNeg).toInt = x_1898.toInt := by rw [ex_1898]
                        have cx_1898 := kx_1898
                        refine lv_ishl hx hb dX7_fewestFor_117 ?_
                        refine lv_topi (fun x_1899 ex_1899 => ?_)
                        have rg_x_1899 := fb_rng x_1899
                        refine lv_goto (tgt := 122) hx hb dX7_fewestFor_118 (by decide) ?_
                        refine lv_ior hx hb dX7_fewestFor_122 ?_
                        refine lv_topi (fun x_1900 ex_1900 => ?_)
                        have rg_x_1900 := fb_rng x_1900
                        refine lv_istore (lv' := [(6, .int x_1900), (7, .int z_1885), (5, .int z_1878), (4, .int z_1879), (3, .int z_1873), (0, .ref oM), (1, .int p0), (2, .int p1)]) hx hb dX7_fewestFor_123 hl (by decide) rfl (fun ls hl => ?_)
                        obtain ⟨x_1901, ex_1901⟩ : ∃ z : Int32, z = z_1885 + Int32.ofInt 1 := ⟨_, rfl⟩
                        have vx_1901 : x_1901.toInt = z_1885.toInt + 1 := ti_add (y := 1) ex_1901 rfl kc_1 (om_4e4fce7e hi0_n_1887.1) (om_219cd8d8 rg_z_1873.2 gc_1888)
                        refine lv_iinc (v := x_1901) (lv' := [(7, .int x_1901), (6, .int x_1900), (5, .int z_1878), (4, .int z_1879), (3, .int z_1873), (0, .ref oM), (1, .int p0), (2, .int p1)]) hx hb dX7_fewestFor_125 hl (k := 1) rfl ex_1901.symm (by decide) rfl (fun ls hl => ?_)
                        refine lv_goto (tgt := 91) hx hb dX7_fewestFor_128 (by decide) ?_
                        exact ih_n_1887 x_1901 x_1900 _ _ _  ⟨(om_83b90de5 hi0_n_1887.1 vx_1901), (om_5c6bfac3 rg_z_1873.2 gc_1888 vx_1901)⟩ (ms_lt hm_n_1887 (om_b9393183 vx_1901) (om_bc4d5040 rg_z_1873.2 gc_1888)) hP hD hS (lv_sub hl [0, 1, 2, 3, 4, 5, 6, 7] rfl)
                exact key_n_1887 (((2147483647 - (0 : Int32).toInt).toNat) + 1) 0 0 _ _ _  ⟨(om_b1de7dbe kc_0), (om_daf17c64 kc_0)⟩ (Nat.lt_add_one _) hP hD hS hl
              · skip
                have gc_1884 := ti_nlt c_1884 rfl kc_0
                refine lv_iload hx hb dX7_fewestFor_69 (lv_at hl 0 rfl) ?_
                have hFc : ∀ q, va_A [] _ q → A q := fun q h => hA q (Nat.le_trans hS.1 (va_nilA h))
                refine va_calli (va_runS (As := [.int z_1878]) (rest := []) ⟨hx, hb, hml, hown, hts⟩ (tX7_ones l dC dI _ z_1878 ) (va_cwS 1 hts (wd_S wd_965 wd_966 wd_5 (wd_c wd_967)) rfl rfl rfl ds_yX7_ones_1 ⟨Nat.le_of_ble_eq_true rfl, Nat.le_of_ble_eq_true rfl⟩) ⟨Pw.fb, fun U hU hW => Pn.to hK hE hS hA hU hW⟩ rfl rfl hl.1 rfl (lv_room (Nat.le_of_ble_eq_true rfl)) dX7_fewestFor_71 ⟨Nat.le_of_ble_eq_true rfl, Nat.le_of_ble_eq_true rfl⟩) hS (fun q _ h => hFc q h) hFc (fun r u t H locs ht hvm hw hB hz1 hk1 hS => ?_)
                obtain ⟨hP, hD, hK⟩ := Bw.same ht hvm hP hD hK hk1 hFc
                clear hz1 hk1 hvm ht hB
                obtain ⟨x_1902, rfl⟩ : ∃ z, z = r := ⟨_, rfl⟩
                have rg_x_1902 := fb_rng x_1902
                refine lv_iload hx hb dX7_fewestFor_74 (lv_at hl 1 rfl) ?_
                have hFc : ∀ q, va_A [] _ q → A q := fun q h => hA q (Nat.le_trans hS.1 (va_nilA h))
                refine va_calli (va_runS (As := [.int z_1879]) (rest := [.int x_1902]) ⟨hx, hb, hml, hown, hts⟩ (tX7_ones l dC dI _ z_1879 ) (va_cwS 1 hts (wd_S wd_965 wd_966 wd_5 (wd_c wd_967)) rfl rfl rfl ds_yX7_ones_1 ⟨Nat.le_of_ble_eq_true rfl, Nat.le_of_ble_eq_true rfl⟩) ⟨Pw.fb, fun U hU hW => Pn.to hK hE hS hA hU hW⟩ rfl rfl hl.1 rfl (lv_room (Nat.le_of_ble_eq_true rfl)) dX7_fewestFor_76 ⟨Nat.le_of_ble_eq_true rfl, Nat.le_of_ble_eq_true rfl⟩) hS (fun q _ h => hFc q h) hFc (fun r u t H locs ht hvm hw hB hz1 hk1 hS => ?_)
                obtain ⟨hP, hD, hK⟩ := Bw.same ht hvm hP hD hK hk1 hFc
                clear hz1 hk1 hvm ht hB
                obtain ⟨x_1903, rfl⟩ : ∃ z, z = r := ⟨_, rfl⟩
                have rg_x_1903 := fb_rng x_1903
                refine lv_icmp_lt (tgt := 85) hx hb dX7_fewestFor_79 (by decide) (fun c_1904 => ?_) (fun c_1904 => ?_)
                · skip
                  have gc_1904 := ti_lt c_1904 rfl rfl
                  refine lv_iconst (v := 0) hx hb dX7_fewestFor_85 (by decide) ?_
                  refine lv_istore (lv' := [(6, .int 0), (5, .int z_1878), (4, .int z_1879), (3, .int z_1873), (0, .ref oM), (1, .int p0), (2, .int p1)]) hx hb dX7_fewestFor_86 hl (by decide) rfl (fun ls hl => ?_)
                  refine lv_iconst (v := 0) hx hb dX7_fewestFor_88 (by decide) ?_
                  refine lv_istore (lv' := [(7, .int 0), (6, .int 0), (5, .int z_1878), (4, .int z_1879), (3, .int z_1873), (0, .ref oM), (1, .int p0), (2, .int p1)]) hx hb dX7_fewestFor_89 hl (by decide) rfl (fun ls hl => ?_)
                  have hl := lv_sub hl (l' := [(7, .int 0), (6, .int 0), (5, .int z_1878), (4, .int z_1879), (3, .int z_1873), (0, .ref oM), (1, .int p0), (2, .int p1)]) [0, 1, 2, 3, 4, 5, 6, 7] rfl
                  have key_n_1907 : ∀ (n_1907 : Nat) (z_1905 : Int32) (z_1906 : Int32) (H : Heap) (locs : List Loc) (ls : Array Slot), (0 ≤ z_1905.toInt ∧ z_1905.toInt ≤ 2147483647) → (2147483647 - z_1905.toInt).toNat < n_1907 → va_P (dC, dI) vwCl [(oc7 oM iM_thrown rM_tape iM_taped iM_size iM_at iM_end iM_token iM_whole iM_nameSize iM_fault iM_place iM_trouble rM_letters iM_failed iM_hasCourt rM_r rM_fresh rM_told rM_read rM_st rM_undone rM_kept iM_undos iM_images rM_fresher iM_fresherSize iM_scale iM_night rM_heardRow rM_cutRow iM_breaths iM_cutMany iM_allBreaths rM_trial rM_words iM_fewestBreaths iM_orderMany iM_orderSum iM_leastOrder rM_often iM_setMany iM_someOf iM_allOf iM_allWeight iM_enoughWeight iM_worthSum iM_firstRest iM_leastDrawn), (arI rM_r kM_r 287 fM_r), (arI rM_told kM_told 90 fM_told), (arI rM_st kM_st 90 fM_st), (arI rM_trial kM_trial 90 f_1880), (arI rM_words kM_words 10 f_1874)] H → va_D A [(oc7 oM iM_thrown rM_tape iM_taped iM_size iM_at iM_end iM_token iM_whole iM_nameSize iM_fault iM_place iM_trouble rM_letters iM_failed iM_hasCourt rM_r rM_fresh rM_told rM_read rM_st rM_undone rM_kept iM_undos iM_images rM_fresher iM_fresherSize iM_scale iM_night rM_heardRow rM_cutRow iM_breaths iM_cutMany iM_allBreaths rM_trial rM_words iM_fewestBreaths iM_orderMany iM_orderSum iM_leastOrder rM_often iM_setMany iM_someOf iM_allOf iM_allWeight iM_enoughWeight iM_worthSum iM_firstRest iM_leastDrawn), (arI rM_r kM_r 287 fM_r), (arI rM_told kM_told 90 fM_told), (arI rM_st kM_st 90 fM_st), (arI rM_trial kM_trial 90 f_1880), (arI rM_words kM_words 10 f_1874)] → va_S A s.heap H locs → lv_has ls 8 [(7, .int z_1905), (6, .int z_1906), (5, .int z_1878), (4, .int z_1879), (3, .int z_1873), (0, .ref oM), (1, .int p0), (2, .int p1)] → W p l e (headSpec (Cond.code yX7_fewestFor cX7_fewestFor 8 (some .int) :: wG) ({ frames := 24, cells := 0, slots := 0, locals := 631 })).room s m ([.ref oM, .int p0, .int p1] : List Value).toArray below meth c H locs 0 0 (MQ below (va_Qi (fun (r : Int32) (_ : Nat) => True ∧ True) (fun (_ : Nat) (t : State) => ∃ (nfM_trial : Nat → Int32) (nfM_words : Nat → Int32), Bw dC dI A [(oc7 oM iM_thrown rM_tape iM_taped iM_size iM_at iM_end iM_token iM_whole iM_nameSize iM_fault iM_place iM_trouble rM_letters iM_failed iM_hasCourt rM_r rM_fresh rM_told rM_read rM_st rM_undone rM_kept iM_undos iM_images rM_fresher iM_fresherSize iM_scale iM_night rM_heardRow rM_cutRow iM_breaths iM_cutMany iM_allBreaths rM_trial rM_words iM_fewestBreaths iM_orderMany iM_orderSum iM_leastOrder rM_often iM_setMany iM_someOf iM_allOf iM_allWeight iM_enoughWeight iM_worthSum iM_firstRest iM_leastDrawn), (arI rM_r kM_r 287 fM_r), (arI rM_told kM_told 90 fM_told), (arI rM_st kM_st 90 fM_st), (arI rM_trial kM_trial 90 nfM_trial), (arI rM_words kM_words 10 nfM_words)] [(kM_r, .int), (kM_told, .int), (kM_st, .int), (kM_trial, .int), (kM_words, .int)] t) A) ([.ref oM, .int p0, .int p1] : List Value).toArray s 0 0 A) (F0 m 91 ls []) := by
                    intro n_1907
                    induction n_1907 with
                    | zero => intro z_1905 z_1906 H locs ls hi0_n_1907 hm; exact absurd hm (Nat.not_lt_zero _)
                    | succ n_1907 ih_n_1907 =>
                      intro z_1905 z_1906 H locs ls hi0_n_1907 hm_n_1907 hP hD hS hl
                      have rg_z_1905 := fb_rng z_1905
                      have rg_z_1906 := fb_rng z_1906
                      refine lv_iload hx hb dX7_fewestFor_91 (lv_at hl 0 rfl) ?_
                      refine lv_iload_n hx hb dX7_fewestFor_93 rfl (lv_at hl 4 rfl) ?_
                      refine lv_icmp_ge (tgt := 131) hx hb dX7_fewestFor_94 (by decide) (fun c_1908 => ?_) (fun c_1908 => ?_)
                      · skip
                        have gc_1908 := ti_le c_1908 rfl rfl
                        refine lv_aload_n hx hb dX7_fewestFor_131 rfl (lv_at hl 5 rfl) ?_
                        refine lv_iload hx hb dX7_fewestFor_132 (lv_at hl 1 rfl) ?_
                        refine lv_iload_n hx hb dX7_fewestFor_134 rfl (lv_at hl 6 rfl) ?_
                        refine lv_iload_n hx hb dX7_fewestFor_135 rfl (lv_at hl 7 rfl) ?_
                        have hMs := ml_of hD [true, true, true, true, true, false] (wc := [(oc7 oM iM_thrown rM_tape iM_taped iM_size iM_at iM_end iM_token iM_whole iM_nameSize iM_fault iM_place iM_trouble rM_letters iM_failed iM_hasCourt rM_r rM_fresh rM_told rM_read rM_st rM_undone rM_kept iM_undos iM_images rM_fresher iM_fresherSize iM_scale iM_night rM_heardRow rM_cutRow iM_breaths iM_cutMany iM_allBreaths rM_trial rM_words iM_fewestBreaths iM_orderMany iM_orderSum iM_leastOrder rM_often iM_setMany iM_someOf iM_allOf iM_allWeight iM_enoughWeight iM_worthSum iM_firstRest iM_leastDrawn), (arI rM_r kM_r 287 fM_r), (arI rM_told kM_told 90 fM_told), (arI rM_st kM_st 90 fM_st), (arI rM_trial kM_trial 90 f_1880)]) rfl
                        have hFc := va_freeM hD hS hA _ hMs
                        refine va_calli (va_runV (As := [.int z_1906, .int p0, .int p1]) (rest := []) ⟨hx, hb, hml, hown, hts⟩ (tX7_doesProve l dC dI _ oM iM_thrown rM_tape iM_taped iM_size iM_at iM_end iM_token iM_whole iM_nameSize iM_fault iM_place iM_trouble rM_letters iM_failed iM_hasCourt rM_r fM_r kM_r rM_fresh rM_told fM_told kM_told rM_read rM_st fM_st kM_st rM_undone rM_kept iM_undos iM_images rM_fresher iM_fresherSize iM_scale iM_night rM_heardRow rM_cutRow iM_breaths iM_cutMany iM_allBreaths rM_trial f_1880 kM_trial rM_words iM_fewestBreaths iM_orderMany iM_orderSum iM_leastOrder rM_often iM_setMany iM_someOf iM_allOf iM_allWeight iM_enoughWeight iM_worthSum iM_firstRest iM_leastDrawn z_1906 p0 p1 b_iM_taped b_iM_size b_iM_end b_iM_failed b_iM_hasCourt b_iM_undos b_iM_images b_iM_scale b_iM_breaths b_iM_cutMany (by assumption) (by assumption) (by assumption) (by assumption) (by assumption) ⟨hth.1, hth.2⟩) (cwV 3 hts (wd_V wd_971 wd_972 wd_973 wd_5 (wd_c wd_974)) rfl rfl rfl dv_yX7_doesProve_3 ⟨Nat.le_of_ble_eq_true rfl, Nat.le_of_ble_eq_true rfl⟩) ⟨Pw.fb, recvX7 hK hP (q0 := 0) rfl, fun U hU hW => Pw.to (hP.ms _ hMs) (hD.ms _ hMs) (hK.ms [true, true, true, true, false] rfl) hE hS hFc hU hW⟩ rfl rfl hl.1 rfl (lv_room (Nat.le_of_ble_eq_true rfl)) dX7_fewestFor_136 ⟨Nat.le_of_ble_eq_true rfl, Nat.le_of_ble_eq_true rfl⟩) hS (fun q _ h => hFc q h) hFc (fun r u t H locs ht hvm hw hB hz1 hk1 hS => ?_)
                        refine ex_1_0 hB (fun f_1909 hB => ?_)
                        obtain ⟨hP, hD⟩ := Bw.goN (ws' := [(oc7 oM iM_thrown rM_tape iM_taped iM_size iM_at iM_end iM_token iM_whole iM_nameSize iM_fault iM_place iM_trouble rM_letters iM_failed iM_hasCourt rM_r rM_fresh rM_told rM_read rM_st rM_undone rM_kept iM_undos iM_images rM_fresher iM_fresherSize iM_scale iM_night rM_heardRow rM_cutRow iM_breaths iM_cutMany iM_allBreaths rM_trial rM_words iM_fewestBreaths iM_orderMany iM_orderSum iM_leastOrder rM_often iM_setMany iM_someOf iM_allOf iM_allWeight iM_enoughWeight iM_worthSum iM_firstRest iM_leastDrawn), (arI rM_r kM_r 287 fM_r), (arI rM_told kM_told 90 fM_told), (arI rM_st kM_st 90 fM_st), (arI rM_trial kM_trial 90 f_1909), (arI rM_words kM_words 10 f_1874)]) hB rfl ht hP hD _ hMs hk1 hFc rfl
                        clear hz1 hk1 hvm ht hB hMs
                        obtain ⟨x_1910, rfl⟩ : ∃ z, z = r := ⟨_, rfl⟩
                        have rg_x_1910 := fb_rng x_1910
                        have bx_1910 := hw.1
                        have dx_1910 := bz_tb bx_1910
                        refine lv_if_eq (tgt := 146) hx hb dX7_fewestFor_139 (by decide) (fun c_1911 => ?_) (fun c_1911 => ?_)
                        · skip
                          have gc_1911 := ti_eq c_1911 rfl kc_0
                          obtain ⟨x_1912, ex_1912⟩ : ∃ z : Int32, z = z_1878 + Int32.ofInt 1 := ⟨_, rfl⟩
                          have vx_1912 : x_1912.toInt = z_1878.toInt + 1 := ti_add (y := 1) ex_1912 rfl kc_1 (om_4e4fce7e hi0_n_1881.1) (om_219cd8d8 rg_x_1882.2 gc_1883)
                          refine lv_iinc (v := x_1912) (lv' := [(5, .int x_1912), (7, .int z_1905), (6, .int z_1906), (4, .int z_1879), (3, .int z_1873), (0, .ref oM), (1, .int p0), (2, .int p1)]) hx hb dX7_fewestFor_146 hl (k := 2) rfl ex_1912.symm (by decide) rfl (fun ls hl => ?_)
                          refine lv_goto (tgt := 56) hx hb dX7_fewestFor_149 (by decide) ?_
                          exact ih_n_1881 x_1912 z_1879 f_1909 _ _ _  ⟨(om_83b90de5 hi0_n_1881.1 vx_1912), (om_5c6bfac3 rg_x_1882.2 gc_1883 vx_1912)⟩ (ms_lt hm_n_1881 (om_b9393183 vx_1912) (om_bc4d5040 rg_x_1882.2 gc_1883)) hP hD hS (lv_sub hl [0, 3, 4, 5, 6, 7] rfl)
                        · skip
                          have gc_1911 := ti_ne c_1911 rfl kc_0
                          refine lv_iload hx hb dX7_fewestFor_142 (lv_at hl 1 rfl) ?_
                          refine lv_istore (lv' := [(4, .int z_1906), (7, .int z_1905), (6, .int z_1906), (5, .int z_1878), (3, .int z_1873), (0, .ref oM), (1, .int p0), (2, .int p1)]) hx hb dX7_fewestFor_144 hl (by decide) rfl (fun ls hl => ?_)
                          obtain ⟨x_1913, ex_1913⟩ : ∃ z : Int32, z = z_1878 + Int32.ofInt 1 := ⟨_, rfl⟩
                          have vx_1913 : x_1913.toInt = z_1878.toInt + 1 := ti_add (y := 1) ex_1913 rfl kc_1 (om_4e4fce7e hi0_n_1881.1) (om_219cd8d8 rg_x_1882.2 gc_1883)
                          refine lv_iinc (v := x_1913) (lv' := [(5, .int x_1913), (4, .int z_1906), (7, .int z_1905), (6, .int z_1906), (3, .int z_1873), (0, .ref oM), (1, .int p0), (2, .int p1)]) hx hb dX7_fewestFor_146 hl (k := 3) rfl ex_1913.symm (by decide) rfl (fun ls hl => ?_)
                          refine lv_goto (tgt := 56) hx hb dX7_fewestFor_149 (by decide) ?_
                          exact ih_n_1881 x_1913 z_1906 f_1909 _ _ _  ⟨(om_83b90de5 hi0_n_1881.1 vx_1913), (om_5c6bfac3 rg_x_1882.2 gc_1883 vx_1913)⟩ (ms_lt hm_n_1881 (om_b9393183 vx_1913) (om_bc4d5040 rg_x_1882.2 gc_1883)) hP hD hS (lv_sub hl [0, 1, 4, 5, 6, 7] rfl)
                      · skip
                        have gc_1908 := ti_nle c_1908 rfl rfl
                        refine lv_iload hx hb dX7_fewestFor_97 (lv_at hl 1 rfl) ?_
                        refine lv_iload hx hb dX7_fewestFor_99 (lv_at hl 2 rfl) ?_
                        refine lv_iload hx hb dX7_fewestFor_101 (lv_at hl 0 rfl) ?_
                        have hFc : ∀ q, va_A [] _ q → A q := fun q h => hA q (Nat.le_trans hS.1 (va_nilA h))
                        refine va_calli (va_runS (As := [.int z_1878, .int z_1905]) (rest := [.int z_1906]) ⟨hx, hb, hml, hown, hts⟩ (tX7_hasBit l dC dI _ z_1878 z_1905 ) (va_cwS 2 hts (wd_S wd_968 wd_969 wd_5 (wd_c wd_970)) rfl rfl rfl ds_yX7_hasBit_2 ⟨Nat.le_of_ble_eq_true rfl, Nat.le_of_ble_eq_true rfl⟩) ⟨Pw.fb, fun U hU hW => Pn.to hK hE hS hA hU hW⟩ rfl rfl hl.1 rfl (lv_room (Nat.le_of_ble_eq_true rfl)) dX7_fewestFor_103 ⟨Nat.le_of_ble_eq_true rfl, Nat.le_of_ble_eq_true rfl⟩) hS (fun q _ h => hFc q h) hFc (fun r u t H locs ht hvm hw hB hz1 hk1 hS => ?_)
                        obtain ⟨hP, hD, hK⟩ := Bw.same ht hvm hP hD hK hk1 hFc
                        clear hz1 hk1 hvm ht hB
                        have hq9 := hw.2
                        have hw := hw.1
                        obtain ⟨x_1914, rfl⟩ : ∃ z, z = r := ⟨_, rfl⟩
                        have rg_x_1914 := fb_rng x_1914
                        have bx_1914 := hw.1
                        have dx_1914 := bz_tb bx_1914
                        refine lv_if_eq (tgt := 121) hx hb dX7_fewestFor_106 (by decide) (fun c_1915 => ?_) (fun c_1915 => ?_)
                        · skip
                          have gc_1915 := ti_eq c_1915 rfl kc_0
                          refine lv_iconst (v := 0) hx hb dX7_fewestFor_121 (by decide) ?_
                          refine lv_ior hx hb dX7_fewestFor_122 ?_
                          refine lv_topi (fun x_1916 ex_1916 => ?_)
                          have rg_x_1916 := fb_rng x_1916
                          refine lv_istore (lv' := [(6, .int x_1916), (7, .int z_1905), (5, .int z_1878), (4, .int z_1879), (3, .int z_1873), (0, .ref oM), (1, .int p0), (2, .int p1)]) hx hb dX7_fewestFor_123 hl (by decide) rfl (fun ls hl => ?_)
                          obtain ⟨x_1917, ex_1917⟩ : ∃ z : Int32, z = z_1905 + Int32.ofInt 1 := ⟨_, rfl⟩
                          have vx_1917 : x_1917.toInt = z_1905.toInt + 1 := ti_add (y := 1) ex_1917 rfl kc_1 (om_4e4fce7e hi0_n_1907.1) (om_219cd8d8 rg_z_1873.2 gc_1908)
                          refine lv_iinc (v := x_1917) (lv' := [(7, .int x_1917), (6, .int x_1916), (5, .int z_1878), (4, .int z_1879), (3, .int z_1873), (0, .ref oM), (1, .int p0), (2, .int p1)]) hx hb dX7_fewestFor_125 hl (k := 1) rfl ex_1917.symm (by decide) rfl (fun ls hl => ?_)
                          refine lv_goto (tgt := 91) hx hb dX7_fewestFor_128 (by decide) ?_
                          exact ih_n_1907 x_1917 x_1916 _ _ _  ⟨(om_83b90de5 hi0_n_1907.1 vx_1917), (om_5c6bfac3 rg_z_1873.2 gc_1908 vx_1917)⟩ (ms_lt hm_n_1907 (om_b9393183 vx_1917) (om_bc4d5040 rg_z_1873.2 gc_1908)) hP hD hS (lv_sub hl [0, 1, 2, 3, 4, 5, 6, 7] rfl)
                        · skip
                          have gc_1915 := ti_ne c_1915 rfl kc_0
                          refine lv_iconst (v := 1) hx hb dX7_fewestFor_109 (by decide) ?_
                          refine lv_aload_n hx hb dX7_fewestFor_110 rfl (lv_at hl 5 rfl) ?_
                          refine va_get (D := (dC, dI)) (ci := 7) (v := .ref rM_words) (C := RX7) (T := TX7) (N := 48) hx hb hts inX7 hown hK hP 0 rfl rfl 34 (by decide) (hts _ wd_168) (fun _ h9 => h9) rfl dX7_fewestFor_111 ?_
                          refine lv_iload hx hb dX7_fewestFor_114 (lv_at hl 0 rfl) ?_
                          refine va_iald hx hb hK hP 5 4 rfl rfl (ti_in rfl hi0_n_1907.1 (by omega)) dX7_fewestFor_116 ?_
                          refine lv_topi (fun x_1918 ex_1918 => ?_)
                          have rg_x_1918 := fb_rng x_1918
                          have kx_1918 : (f_1874 z_1905.toNatClampNeg).toInt = x_1918.toInt := by rw [ex_1918]
                          have cx_1918 := kx_1918
                          refine lv_ishl hx hb dX7_fewestFor_117 ?_
                          refine lv_topi (fun x_1919 ex_1919 => ?_)
                          have rg_x_1919 := fb_rng x_1919
                          refine lv_goto (tgt := 122) hx hb dX7_fewestFor_118 (by decide) ?_
                          refine lv_ior hx hb dX7_fewestFor_122 ?_
                          refine lv_topi (fun x_1920 ex_1920 => ?_)
                          have rg_x_1920 := fb_rng x_1920
                          refine lv_istore (lv' := [(6, .int x_1920), (7, .int z_1905), (5, .int z_1878), (4, .int z_1879), (3, .int z_1873), (0, .ref oM), (1, .int p0), (2, .int p1)]) hx hb dX7_fewestFor_123 hl (by decide) rfl (fun ls hl => ?_)
                          obtain ⟨x_1921, ex_1921⟩ : ∃ z : Int32, z = z_1905 + Int32.ofInt 1 := ⟨_, rfl⟩
                          have vx_1921 : x_1921.toInt = z_1905.toInt + 1 := ti_add (y := 1) ex_1921 rfl kc_1 (om_4e4fce7e hi0_n_1907.1) (om_219cd8d8 rg_z_1873.2 gc_1908)
                          refine lv_iinc (v := x_1921) (lv' := [(7, .int x_1921), (6, .int x_1920), (5, .int z_1878), (4, .int z_1879), (3, .int z_1873), (0, .ref oM), (1, .int p0), (2, .int p1)]) hx hb dX7_fewestFor_125 hl (k := 1) rfl ex_1921.symm (by decide) rfl (fun ls hl => ?_)
                          refine lv_goto (tgt := 91) hx hb dX7_fewestFor_128 (by decide) ?_
                          exact ih_n_1907 x_1921 x_1920 _ _ _  ⟨(om_83b90de5 hi0_n_1907.1 vx_1921), (om_5c6bfac3 rg_z_1873.2 gc_1908 vx_1921)⟩ (ms_lt hm_n_1907 (om_b9393183 vx_1921) (om_bc4d5040 rg_z_1873.2 gc_1908)) hP hD hS (lv_sub hl [0, 1, 2, 3, 4, 5, 6, 7] rfl)
                  exact key_n_1907 (((2147483647 - (0 : Int32).toInt).toNat) + 1) 0 0 _ _ _  ⟨(om_b1de7dbe kc_0), (om_daf17c64 kc_0)⟩ (Nat.lt_add_one _) hP hD hS hl
                · skip
                  have gc_1904 := ti_nlt c_1904 rfl rfl
                  refine lv_goto (tgt := 146) hx hb dX7_fewestFor_82 (by decide) ?_
                  obtain ⟨x_1922, ex_1922⟩ : ∃ z : Int32, z = z_1878 + Int32.ofInt 1 := ⟨_, rfl⟩
                  have vx_1922 : x_1922.toInt = z_1878.toInt + 1 := ti_add (y := 1) ex_1922 rfl kc_1 (om_4e4fce7e hi0_n_1881.1) (om_219cd8d8 rg_x_1882.2 gc_1883)
                  refine lv_iinc (v := x_1922) (lv' := [(5, .int x_1922), (4, .int z_1879), (3, .int z_1873), (0, .ref oM), (1, .int p0), (2, .int p1)]) hx hb dX7_fewestFor_146 hl (k := 0) rfl ex_1922.symm (by decide) rfl (fun ls hl => ?_)
                  refine lv_goto (tgt := 56) hx hb dX7_fewestFor_149 (by decide) ?_
                  exact ih_n_1881 x_1922 z_1879 f_1880 _ _ _  ⟨(om_83b90de5 hi0_n_1881.1 vx_1922), (om_5c6bfac3 rg_x_1882.2 gc_1883 vx_1922)⟩ (ms_lt hm_n_1881 (om_b9393183 vx_1922) (om_bc4d5040 rg_x_1882.2 gc_1883)) hP hD hS (lv_sub hl [0, 1, 2, 3, 4, 5] rfl)
        exact key_n_1881 (((2147483647 - (0 : Int32).toInt).toNat) + 1) 0 (-2) fM_trial _ _ _  ⟨(om_b1de7dbe kc_0), (om_daf17c64 kc_0)⟩ (Nat.lt_add_one _) hP hD hS hl
      · skip
        have gc_1877 := ti_nle c_1877 rfl rfl
        refine lv_aload_n hx hb dX7_fewestFor_16 rfl (lv_at hl 2 rfl) ?_
        refine va_get (D := (dC, dI)) (ci := 7) (v := .ref rM_r) (C := RX7) (T := TX7) (N := 48) hx hb hts inX7 hown hK hP 0 rfl rfl 15 (by decide) (hts _ wd_155) (fun _ h9 => h9) rfl dX7_fewestFor_17 ?_
        refine lv_bipush (v := 9) hx hb dX7_fewestFor_20 (by decide) ?_
        refine lv_iload hx hb dX7_fewestFor_22 (lv_at hl 0 rfl) ?_
        refine lv_iadd hx hb dX7_fewestFor_24 ?_
        refine lv_topi (fun x_1923 ex_1923 => ?_)
        have vx_1923 : x_1923.toInt = z_1872.toInt + 9 := om_296ce4dd (ti_add ex_1923 kc_9 rfl (om_090bbef4 hi0_n_1875.1) (om_40a1f881 s_nodes.2 hi0_n_1875.2))
        refine va_iald hx hb hK hP 1 0 rfl rfl (ti_in vx_1923 (om_edbe2e4c hi0_n_1875.1) (om_5e511aa9 s_nodes.2 hi0_n_1875.2)) dX7_fewestFor_25 ?_
        refine lv_topi (fun x_1924 ex_1924 => ?_)
        have rg_x_1924 := fb_rng x_1924
        have kx_1924 : (fM_r x_1923.toNatClampNeg).toInt = x_1924.toInt := by rw [ex_1924]
        have cx_1924 : (fM_r (9 + z_1872.toNatClampNeg)).toInt = x_1924.toInt := by rw [show 9 + z_1872.toNatClampNeg = x_1923.toNatClampNeg from (om_32f1c3e7 (ti_cl (x := z_1872) rfl hi0_n_1875.1) (ti_cl (x := x_1923) vx_1923 (om_edbe2e4c hi0_n_1875.1)))]; exact kx_1924
        have sx_1924 := r_R.kind x_1923.toNatClampNeg (om_462cc4af (ti_cl (x := x_1923) vx_1923 (om_edbe2e4c hi0_n_1875.1)) hi0_n_1875.1) (om_19da1274 (ti_cl (x := x_1923) vx_1923 (om_edbe2e4c hi0_n_1875.1)) s_nodes.2 cx_1876 gc_1877)
        have ct9 := cnt_at (P := fun k => (fM_r (9 + k)).toInt = 0) z_1872.toNatClampNeg
        have cb9 := r_R.cw (z_1872.toNatClampNeg + 1) (by have q1 := ti_cl (x := z_1872) rfl hi0_n_1875.1; omega)
        rcases (show x_1924.toInt = 0 ∨ 1 ≤ x_1924.toInt by omega) with h9z | h9z
        · skip
          have ce9 := ct9.1 (by show (fM_r (9 + z_1872.toNatClampNeg)).toInt = 0; omega)
          refine lv_if_eq (tgt := 32) hx hb dX7_fewestFor_26 (by decide) (fun c_1925 => ?_) (fun c_1925 => ?_)
          · skip
            have gc_1925 := ti_eq c_1925 rfl kc_0
            refine lv_aload_n hx hb dX7_fewestFor_32 rfl (lv_at hl 2 rfl) ?_
            refine va_get (D := (dC, dI)) (ci := 7) (v := .ref rM_words) (C := RX7) (T := TX7) (N := 48) hx hb hts inX7 hown hK hP 0 rfl rfl 34 (by decide) (hts _ wd_168) (fun _ h9 => h9) rfl dX7_fewestFor_33 ?_
            refine lv_iload_n hx hb dX7_fewestFor_36 rfl (lv_at hl 1 rfl) ?_
            refine lv_iload hx hb dX7_fewestFor_37 (lv_at hl 0 rfl) ?_
            refine vz_iast hx hb hK hP hD hS 5 4 rfl rfl (ti_in rfl (by omega) (by omega)) dX7_fewestFor_39 (fun H locs f_1926 hP hD hS => ?_)
            obtain ⟨hP, hD⟩ := wl2 (ws' := [(oc7 oM iM_thrown rM_tape iM_taped iM_size iM_at iM_end iM_token iM_whole iM_nameSize iM_fault iM_place iM_trouble rM_letters iM_failed iM_hasCourt rM_r rM_fresh rM_told rM_read rM_st rM_undone rM_kept iM_undos iM_images rM_fresher iM_fresherSize iM_scale iM_night rM_heardRow rM_cutRow iM_breaths iM_cutMany iM_allBreaths rM_trial rM_words iM_fewestBreaths iM_orderMany iM_orderSum iM_leastOrder rM_often iM_setMany iM_someOf iM_allOf iM_allWeight iM_enoughWeight iM_worthSum iM_firstRest iM_leastDrawn), (arI rM_r kM_r 287 fM_r), (arI rM_told kM_told 90 fM_told), (arI rM_st kM_st 90 fM_st), (arI rM_trial kM_trial 90 fM_trial), (arI rM_words kM_words 10 f_1926)]) hP hD rfl
            obtain ⟨x_1927, ex_1927⟩ : ∃ z : Int32, z = z_1873 + Int32.ofInt 1 := ⟨_, rfl⟩
            have vx_1927 : x_1927.toInt = z_1873.toInt + 1 := by have q := ti_add (y := 1) ex_1927 rfl kc_1 (by omega) (by omega); omega
            refine lv_iinc (v := x_1927) (lv' := [(3, .int x_1927), (4, .int z_1872), (0, .ref oM), (1, .int p0), (2, .int p1)]) hx hb dX7_fewestFor_40 hl (k := 1) rfl ex_1927.symm (by decide) rfl (fun ls hl => ?_)
            obtain ⟨x_1928, ex_1928⟩ : ∃ z : Int32, z = z_1872 + Int32.ofInt 1 := ⟨_, rfl⟩
            have vx_1928 : x_1928.toInt = z_1872.toInt + 1 := ti_add (y := 1) ex_1928 rfl kc_1 (om_4e4fce7e hi0_n_1875.1) (om_656ddbff s_nodes.2 hi0_n_1875.2)
            refine lv_iinc (v := x_1928) (lv' := [(4, .int x_1928), (3, .int x_1927), (0, .ref oM), (1, .int p0), (2, .int p1)]) hx hb dX7_fewestFor_43 hl (k := 1) rfl ex_1928.symm (by decide) rfl (fun ls hl => ?_)
            refine lv_goto (tgt := 5) hx hb dX7_fewestFor_46 (by decide) ?_
            exact ih_n_1875 x_1928 x_1927 f_1926 _ _ _  ⟨(om_83b90de5 hi0_n_1875.1 vx_1928), (om_1ad1f819 cx_1876 gc_1877 vx_1928)⟩ (by rw [show x_1928.toNatClampNeg = z_1872.toNatClampNeg + 1 from (by have q_1 := ti_cl (x := x_1928) vx_1928 (om_9548a8fd hi0_n_1875.1); have q_2 := ti_cl (x := z_1872) rfl hi0_n_1875.1; omega)]; omega) (ms_lt hm_n_1875 (om_dd4ae0bc vx_1928) (om_6d498008 cx_1876 gc_1877)) hP hD hS (lv_sub hl [0, 1, 2, 3, 4] rfl)
          · skip
            have gc_1925 := ti_ne c_1925 rfl kc_0
            exfalso; omega
        · skip
          have ce9 := ct9.2 (by show ¬ (fM_r (9 + z_1872.toNatClampNeg)).toInt = 0; omega)
          refine lv_if_eq (tgt := 32) hx hb dX7_fewestFor_26 (by decide) (fun c_1929 => ?_) (fun c_1929 => ?_)
          · skip
            have gc_1929 := ti_eq c_1929 rfl kc_0
            exfalso; omega
          · skip
            have gc_1929 := ti_ne c_1929 rfl kc_0
            refine lv_goto (tgt := 43) hx hb dX7_fewestFor_29 (by decide) ?_
            obtain ⟨x_1930, ex_1930⟩ : ∃ z : Int32, z = z_1872 + Int32.ofInt 1 := ⟨_, rfl⟩
            have vx_1930 : x_1930.toInt = z_1872.toInt + 1 := ti_add (y := 1) ex_1930 rfl kc_1 (om_4e4fce7e hi0_n_1875.1) (om_656ddbff s_nodes.2 hi0_n_1875.2)
            refine lv_iinc (v := x_1930) (lv' := [(4, .int x_1930), (3, .int z_1873), (0, .ref oM), (1, .int p0), (2, .int p1)]) hx hb dX7_fewestFor_43 hl (k := 0) rfl ex_1930.symm (by decide) rfl (fun ls hl => ?_)
            refine lv_goto (tgt := 5) hx hb dX7_fewestFor_46 (by decide) ?_
            exact ih_n_1875 x_1930 z_1873 f_1874 _ _ _  ⟨(om_83b90de5 hi0_n_1875.1 vx_1930), (om_1ad1f819 cx_1876 gc_1877 vx_1930)⟩ (by rw [show x_1930.toNatClampNeg = z_1872.toNatClampNeg + 1 from (by have q_1 := ti_cl (x := x_1930) vx_1930 (om_9548a8fd hi0_n_1875.1); have q_2 := ti_cl (x := z_1872) rfl hi0_n_1875.1; omega)]; omega) (ms_lt hm_n_1875 (om_dd4ae0bc vx_1930) (om_6d498008 cx_1876 gc_1877)) hP hD hS (lv_sub hl [0, 1, 2, 3, 4] rfl)
  exact key_n_1875 ((((fM_r 1).toInt - (0 : Int32).toInt).toNat) + 1) 0 0 fM_words _ _ _  ⟨(om_b1de7dbe kc_0), (om_2dfe280d s_nodes.1 kc_0)⟩ (by first | (have q0 := kc_0; have q1 := kc_1; omega) | decide | assumption | (show (0 : Int32).toInt = ((0 : Nat) : Int); decide) | exact rfl) (Nat.lt_add_one _) hP hD hS hl
set_option maxHeartbeats 4000000 in
set_option maxRecDepth 100000 in
theorem tX7_proof (l : Launch) (dC : Nat → ClassId) (dI : Nat → Nat → Nat) (sz : Nat) (oM : Nat) (iM_thrown : Int32) (rM_tape : Nat) (iM_taped : Int32) (iM_size : Int32) (iM_at : Int32) (iM_end : Int32) (iM_token : Int32) (iM_whole : Int32) (iM_nameSize : Int32) (iM_fault : Int32) (iM_place : Int32) (iM_trouble : Int32) (rM_letters : Nat) (iM_failed : Int32) (iM_hasCourt : Int32) (rM_r : Nat) (fM_r : Nat → Int32) (kM_r : ClassId) (rM_fresh : Nat) (rM_told : Nat) (fM_told : Nat → Int32) (kM_told : ClassId) (rM_read : Nat) (rM_st : Nat) (fM_st : Nat → Int32) (kM_st : ClassId) (rM_undone : Nat) (rM_kept : Nat) (iM_undos : Int32) (iM_images : Int32) (rM_fresher : Nat) (iM_fresherSize : Int32) (iM_scale : Int32) (iM_night : Int32) (rM_heardRow : Nat) (rM_cutRow : Nat) (iM_breaths : Int32) (iM_cutMany : Int32) (iM_allBreaths : Int32) (rM_trial : Nat) (fM_trial : Nat → Int32) (kM_trial : ClassId) (rM_words : Nat) (fM_words : Nat → Int32) (kM_words : ClassId) (iM_fewestBreaths : Int32) (iM_orderMany : Int32) (iM_orderSum : Int32) (iM_leastOrder : Int32) (rM_often : Nat) (iM_setMany : Int32) (iM_someOf : Int32) (iM_allOf : Int32) (iM_allWeight : Int64) (iM_enoughWeight : Int64) (iM_worthSum : Int64) (iM_firstRest : Int32) (iM_leastDrawn : Int32) (p0 : Int32) (b_iM_taped : 0 ≤ iM_taped.toInt ∧ iM_taped.toInt ≤ 900) (b_iM_size : 0 ≤ iM_size.toInt ∧ iM_size.toInt ≤ 900) (b_iM_end : 0 ≤ iM_end.toInt ∧ iM_end.toInt ≤ 900) (b_iM_failed : 0 ≤ iM_failed.toInt ∧ iM_failed.toInt ≤ 1) (b_iM_hasCourt : 0 ≤ iM_hasCourt.toInt ∧ iM_hasCourt.toInt ≤ 1) (b_iM_undos : 0 ≤ iM_undos.toInt ∧ iM_undos.toInt ≤ 16) (b_iM_images : 0 ≤ iM_images.toInt ∧ iM_images.toInt ≤ 3) (b_iM_scale : 1 ≤ iM_scale.toInt ∧ iM_scale.toInt ≤ 1296) (b_iM_breaths : 0 ≤ iM_breaths.toInt ∧ iM_breaths.toInt ≤ 399) (b_iM_cutMany : 0 ≤ iM_cutMany.toInt ∧ iM_cutMany.toInt ≤ 399) (r_R : ROk fM_r) (r_C : iM_hasCourt.toInt ≤ 0 ∨ (1 ≤ (fM_r 1).toInt ∧ 0 ≤ (fM_r 6).toInt ∧ (fM_r 6).toInt < (fM_r 1).toInt)) (r_st : RowOk fM_r fM_st) (r_told : RowOk fM_r fM_told) (r_wst : WorOk fM_st)  : Met l yX7_proof (Cond.code yX7_proof cX7_proof 3 (some .int) :: wG) ({ frames := 25, cells := 0, slots := 0, locals := 658 }) (va_Pc [.ref oM, .int p0] (Pw dC dI sz [(oc7 oM iM_thrown rM_tape iM_taped iM_size iM_at iM_end iM_token iM_whole iM_nameSize iM_fault iM_place iM_trouble rM_letters iM_failed iM_hasCourt rM_r rM_fresh rM_told rM_read rM_st rM_undone rM_kept iM_undos iM_images rM_fresher iM_fresherSize iM_scale iM_night rM_heardRow rM_cutRow iM_breaths iM_cutMany iM_allBreaths rM_trial rM_words iM_fewestBreaths iM_orderMany iM_orderSum iM_leastOrder rM_often iM_setMany iM_someOf iM_allOf iM_allWeight iM_enoughWeight iM_worthSum iM_firstRest iM_leastDrawn), (arI rM_r kM_r 287 fM_r), (arI rM_told kM_told 90 fM_told), (arI rM_st kM_st 90 fM_st), (arI rM_trial kM_trial 90 fM_trial), (arI rM_words kM_words 10 fM_words)] [(kM_r, .int), (kM_told, .int), (kM_st, .int), (kM_trial, .int), (kM_words, .int)])) (va_Qi (fun (r : Int32) (_ : Nat) => True ∧ True) (fun (_ : Nat) (t : State) => ∃ (niM_thrown : Int32) (niM_trouble : Int32) (nfM_trial : Nat → Int32) (nfM_words : Nat → Int32), Bw dC dI (va_A [(oc7 oM iM_thrown rM_tape iM_taped iM_size iM_at iM_end iM_token iM_whole iM_nameSize iM_fault iM_place iM_trouble rM_letters iM_failed iM_hasCourt rM_r rM_fresh rM_told rM_read rM_st rM_undone rM_kept iM_undos iM_images rM_fresher iM_fresherSize iM_scale iM_night rM_heardRow rM_cutRow iM_breaths iM_cutMany iM_allBreaths rM_trial rM_words iM_fewestBreaths iM_orderMany iM_orderSum iM_leastOrder rM_often iM_setMany iM_someOf iM_allOf iM_allWeight iM_enoughWeight iM_worthSum iM_firstRest iM_leastDrawn), (arI rM_r kM_r 287 fM_r), (arI rM_told kM_told 90 fM_told), (arI rM_st kM_st 90 fM_st), (arI rM_trial kM_trial 90 fM_trial), (arI rM_words kM_words 10 fM_words)] sz) [(oc7 oM niM_thrown rM_tape iM_taped iM_size iM_at iM_end iM_token iM_whole iM_nameSize iM_fault iM_place niM_trouble rM_letters iM_failed iM_hasCourt rM_r rM_fresh rM_told rM_read rM_st rM_undone rM_kept iM_undos iM_images rM_fresher iM_fresherSize iM_scale iM_night rM_heardRow rM_cutRow iM_breaths iM_cutMany iM_allBreaths rM_trial rM_words iM_fewestBreaths iM_orderMany iM_orderSum iM_leastOrder rM_often iM_setMany iM_someOf iM_allOf iM_allWeight iM_enoughWeight iM_worthSum iM_firstRest iM_leastDrawn), (arI rM_r kM_r 287 fM_r), (arI rM_told kM_told 90 fM_told), (arI rM_st kM_st 90 fM_st), (arI rM_trial kM_trial 90 nfM_trial), (arI rM_words kM_words 10 nfM_words)] [(kM_r, .int), (kM_told, .int), (kM_st, .int), (kM_trial, .int), (kM_words, .int)] t) (va_A [(oc7 oM iM_thrown rM_tape iM_taped iM_size iM_at iM_end iM_token iM_whole iM_nameSize iM_fault iM_place iM_trouble rM_letters iM_failed iM_hasCourt rM_r rM_fresh rM_told rM_read rM_st rM_undone rM_kept iM_undos iM_images rM_fresher iM_fresherSize iM_scale iM_night rM_heardRow rM_cutRow iM_breaths iM_cutMany iM_allBreaths rM_trial rM_words iM_fewestBreaths iM_orderMany iM_orderSum iM_leastOrder rM_often iM_setMany iM_someOf iM_allOf iM_allWeight iM_enoughWeight iM_worthSum iM_firstRest iM_leastDrawn), (arI rM_r kM_r 287 fM_r), (arI rM_told kM_told 90 fM_told), (arI rM_st kM_st 90 fM_st), (arI rM_trial kM_trial 90 fM_trial), (arI rM_words kM_words 10 fM_words)] sz)) 0 0 (va_A [(oc7 oM iM_thrown rM_tape iM_taped iM_size iM_at iM_end iM_token iM_whole iM_nameSize iM_fault iM_place iM_trouble rM_letters iM_failed iM_hasCourt rM_r rM_fresh rM_told rM_read rM_st rM_undone rM_kept iM_undos iM_images rM_fresher iM_fresherSize iM_scale iM_night rM_heardRow rM_cutRow iM_breaths iM_cutMany iM_allBreaths rM_trial rM_words iM_fewestBreaths iM_orderMany iM_orderSum iM_leastOrder rM_often iM_setMany iM_someOf iM_allOf iM_allWeight iM_enoughWeight iM_worthSum iM_firstRest iM_leastDrawn), (arI rM_r kM_r 287 fM_r), (arI rM_told kM_told 90 fM_told), (arI rM_st kM_st 90 fM_st), (arI rM_trial kM_trial 90 fM_trial), (arI rM_words kM_words 10 fM_words)] sz) := by
  refine Met.ofW (cc := cX7_proof) (maxL := 3) (ret := (some .int)) pnX7 rfl ?_
  intro p e s m args below meth c s₁ B hml hv
  obtain ⟨rfl, hsz, hP, hK, hD0, hE⟩ := hv
  have hx := B.exec
  have hb := B.bytes
  have hr := B.returns
  have hts : ∀ w ∈ wG, w.before ([.ref oM, .int p0] : List Value).toArray s = true := fun w h => atoms_spec (ws := Cond.code yX7_proof cX7_proof 3 (some .int) :: wG) B.pre w (List.mem_cons_of_mem _ h)
  have hown : s.vm.findClass RX7 = some m.cls := own_of B.named rfl
  have hlocks := B.notSynchronized
  subst hsz
  have hD := hD0.self (sz := s.heap.size)
  generalize hAe : va_A [(oc7 oM iM_thrown rM_tape iM_taped iM_size iM_at iM_end iM_token iM_whole iM_nameSize iM_fault iM_place iM_trouble rM_letters iM_failed iM_hasCourt rM_r rM_fresh rM_told rM_read rM_st rM_undone rM_kept iM_undos iM_images rM_fresher iM_fresherSize iM_scale iM_night rM_heardRow rM_cutRow iM_breaths iM_cutMany iM_allBreaths rM_trial rM_words iM_fewestBreaths iM_orderMany iM_orderSum iM_leastOrder rM_often iM_setMany iM_someOf iM_allOf iM_allWeight iM_enoughWeight iM_worthSum iM_firstRest iM_leastDrawn), (arI rM_r kM_r 287 fM_r), (arI rM_told kM_told 90 fM_told), (arI rM_st kM_st 90 fM_st), (arI rM_trial kM_trial 90 fM_trial), (arI rM_words kM_words 10 fM_words)] s.heap.size = A at hD hE ⊢
  have hA : ∀ q : Nat, s.heap.size ≤ q → A q := fun q h => by rw [← hAe]; exact Or.inr h
  have hS : va_S A s.heap s.heap [] := va_S.rf
  have hl := lv_entry ([.ref oM, .int p0]) (n := 3) (Nat.le_of_ble_eq_true rfl)
  rw [lg_entry_eq]
  generalize (lg_sl ([.ref oM, .int p0]) ++ List.replicate (3 - (lg_sl ([.ref oM, .int p0])).length) Slot.unset).toArray = ls at hl ⊢
  have hl : lv_has ls 3 [(0, .ref oM), (1, .int p0)] := hl
  have s_slips := r_R.slips
  have s_nodes := r_R.nodes
  have s_uns := r_R.uns
  refine lv_aload_n hx hb dX7_proof_0 rfl (lv_at hl 0 rfl) ?_
  have hMs := ml_of hD [true, false, false, false, false, false] (wc := [(oc7 oM iM_thrown rM_tape iM_taped iM_size iM_at iM_end iM_token iM_whole iM_nameSize iM_fault iM_place iM_trouble rM_letters iM_failed iM_hasCourt rM_r rM_fresh rM_told rM_read rM_st rM_undone rM_kept iM_undos iM_images rM_fresher iM_fresherSize iM_scale iM_night rM_heardRow rM_cutRow iM_breaths iM_cutMany iM_allBreaths rM_trial rM_words iM_fewestBreaths iM_orderMany iM_orderSum iM_leastOrder rM_often iM_setMany iM_someOf iM_allOf iM_allWeight iM_enoughWeight iM_worthSum iM_firstRest iM_leastDrawn)]) rfl
  have hFc := va_freeM hD hS hA _ hMs
  refine va_callv (va_runV (As := []) (rest := []) ⟨hx, hb, hml, hown, hts⟩ (tX7_good l dC dI _ oM iM_thrown rM_tape iM_taped iM_size iM_at iM_end iM_token iM_whole iM_nameSize iM_fault iM_place iM_trouble rM_letters iM_failed iM_hasCourt rM_r rM_fresh rM_told rM_read rM_st rM_undone rM_kept iM_undos iM_images rM_fresher iM_fresherSize iM_scale iM_night rM_heardRow rM_cutRow iM_breaths iM_cutMany iM_allBreaths rM_trial rM_words iM_fewestBreaths iM_orderMany iM_orderSum iM_leastOrder rM_often iM_setMany iM_someOf iM_allOf iM_allWeight iM_enoughWeight iM_worthSum iM_firstRest iM_leastDrawn b_iM_taped b_iM_size b_iM_end b_iM_failed b_iM_hasCourt b_iM_undos b_iM_images b_iM_scale b_iM_breaths b_iM_cutMany) (cwV 0 hts (wd_V wd_388 wd_389 wd_390 wd_5 (wd_c wd_391)) rfl rfl rfl dv_yX7_good_0 ⟨Nat.le_of_ble_eq_true rfl, Nat.le_of_ble_eq_true rfl⟩) ⟨Pw.fb, recvX7 hK hP (q0 := 0) rfl, fun U hU hW => Pw.to (hP.ms _ hMs) (hD.ms _ hMs) (hK.ms [false, false, false, false, false] rfl) hE hS hFc hU hW⟩ rfl rfl hl.1 rfl (lv_room (Nat.le_of_ble_eq_true rfl)) dX7_proof_1 ⟨Nat.le_of_ble_eq_true rfl, Nat.le_of_ble_eq_true rfl⟩) hS (fun q _ h => hFc q h) hFc (fun u t H locs ht hvm hw hB hz1 hk1 hS => ?_)
  refine ex_2_3 hB (fun x_1945 x_1946 b_x_1945 b_x_1946 e_x_1945_0 hB => ?_)
  obtain ⟨hP, hD⟩ := Bw.goN (ws' := [(oc7 oM x_1945 rM_tape iM_taped iM_size iM_at iM_end iM_token iM_whole iM_nameSize iM_fault iM_place x_1946 rM_letters iM_failed iM_hasCourt rM_r rM_fresh rM_told rM_read rM_st rM_undone rM_kept iM_undos iM_images rM_fresher iM_fresherSize iM_scale iM_night rM_heardRow rM_cutRow iM_breaths iM_cutMany iM_allBreaths rM_trial rM_words iM_fewestBreaths iM_orderMany iM_orderSum iM_leastOrder rM_often iM_setMany iM_someOf iM_allOf iM_allWeight iM_enoughWeight iM_worthSum iM_firstRest iM_leastDrawn), (arI rM_r kM_r 287 fM_r), (arI rM_told kM_told 90 fM_told), (arI rM_st kM_st 90 fM_st), (arI rM_trial kM_trial 90 fM_trial), (arI rM_words kM_words 10 fM_words)]) hB rfl ht hP hD _ hMs hk1 hFc rfl
  clear hz1 hk1 hvm ht hB hMs
  refine lv_aload_n hx hb dX7_proof_4 rfl (lv_at hl 0 rfl) ?_
  refine lv_iload_n hx hb dX7_proof_5 rfl (lv_at hl 1 rfl) ?_
  refine lv_iconst (v := 0) hx hb dX7_proof_6 (by decide) ?_
  refine lv_bipush (v := 100) hx hb dX7_proof_7 (by decide) ?_
  have hFc : ∀ q, va_A [] _ q → A q := fun q h => hA q (Nat.le_trans hS.1 (va_nilA h))
  refine va_calli (va_runS (As := [.int p0, .int 0, .int 100]) (rest := [.ref oM]) ⟨hx, hb, hml, hown, hts⟩ (tX7_in l dC dI _ p0 0 100 ) (va_cwS 3 hts (wd_S wd_393 wd_394 wd_5 (wd_c wd_395)) rfl rfl rfl ds_yX7_in_3 ⟨Nat.le_of_ble_eq_true rfl, Nat.le_of_ble_eq_true rfl⟩) ⟨Pw.fb, fun U hU hW => Pn.to hK hE hS hA hU hW⟩ rfl rfl hl.1 rfl (lv_room (Nat.le_of_ble_eq_true rfl)) dX7_proof_9 ⟨Nat.le_of_ble_eq_true rfl, Nat.le_of_ble_eq_true rfl⟩) hS (fun q _ h => hFc q h) hFc (fun r u t H locs ht hvm hw hB hz1 hk1 hS => ?_)
  obtain ⟨hP, hD, hK⟩ := Bw.same ht hvm hP hD hK hk1 hFc
  clear hz1 hk1 hvm ht hB
  have hq9 := hw.2
  have hw := hw.1
  obtain ⟨x_1947, rfl⟩ : ∃ z, z = r := ⟨_, rfl⟩
  have bx_1947 := hw.1
  have dx_1947 := bz_tb bx_1947
  have px_1947 := hw.2
  have hMs := ml_of hD [true, true, false, false, false, false] (wc := [(oc7 oM x_1945 rM_tape iM_taped iM_size iM_at iM_end iM_token iM_whole iM_nameSize iM_fault iM_place x_1946 rM_letters iM_failed iM_hasCourt rM_r rM_fresh rM_told rM_read rM_st rM_undone rM_kept iM_undos iM_images rM_fresher iM_fresherSize iM_scale iM_night rM_heardRow rM_cutRow iM_breaths iM_cutMany iM_allBreaths rM_trial rM_words iM_fewestBreaths iM_orderMany iM_orderSum iM_leastOrder rM_often iM_setMany iM_someOf iM_allOf iM_allWeight iM_enoughWeight iM_worthSum iM_firstRest iM_leastDrawn), (arI rM_r kM_r 287 fM_r)]) rfl
  have hFc := va_freeM hD hS hA _ hMs
  refine va_calli (va_runV (As := [.int x_1947]) (rest := []) ⟨hx, hb, hml, hown, hts⟩ (tX7_why l dC dI _ oM x_1945 rM_tape iM_taped iM_size iM_at iM_end iM_token iM_whole iM_nameSize iM_fault iM_place x_1946 rM_letters iM_failed iM_hasCourt rM_r fM_r kM_r rM_fresh rM_told rM_read rM_st rM_undone rM_kept iM_undos iM_images rM_fresher iM_fresherSize iM_scale iM_night rM_heardRow rM_cutRow iM_breaths iM_cutMany iM_allBreaths rM_trial rM_words iM_fewestBreaths iM_orderMany iM_orderSum iM_leastOrder rM_often iM_setMany iM_someOf iM_allOf iM_allWeight iM_enoughWeight iM_worthSum iM_firstRest iM_leastDrawn x_1947 b_iM_taped b_iM_size b_iM_end b_iM_failed b_iM_hasCourt b_iM_undos b_iM_images b_iM_scale b_iM_breaths b_iM_cutMany (by assumption) (by assumption) ⟨dx_1947.1, dx_1947.2⟩) (cwV 1 hts (wd_V wd_882 wd_883 wd_884 wd_5 (wd_c wd_885)) rfl rfl rfl dv_yX7_why_1 ⟨Nat.le_of_ble_eq_true rfl, Nat.le_of_ble_eq_true rfl⟩) ⟨Pw.fb, recvX7 hK hP (q0 := 0) rfl, fun U hU hW => Pw.to (hP.ms _ hMs) (hD.ms _ hMs) (hK.ms [true, false, false, false, false] rfl) hE hS hFc hU hW⟩ rfl rfl hl.1 rfl (lv_room (Nat.le_of_ble_eq_true rfl)) dX7_proof_12 ⟨Nat.le_of_ble_eq_true rfl, Nat.le_of_ble_eq_true rfl⟩) hS (fun q _ h => hFc q h) hFc (fun r u t H locs ht hvm hw hB hz1 hk1 hS => ?_)
  have hru9 := hw.2
  have hw := hw.1
  obtain ⟨hP, hD⟩ := Bw.goN (ws' := [(oc7 oM x_1945 rM_tape iM_taped iM_size iM_at iM_end iM_token iM_whole iM_nameSize iM_fault iM_place x_1946 rM_letters iM_failed iM_hasCourt rM_r rM_fresh rM_told rM_read rM_st rM_undone rM_kept iM_undos iM_images rM_fresher iM_fresherSize iM_scale iM_night rM_heardRow rM_cutRow iM_breaths iM_cutMany iM_allBreaths rM_trial rM_words iM_fewestBreaths iM_orderMany iM_orderSum iM_leastOrder rM_often iM_setMany iM_someOf iM_allOf iM_allWeight iM_enoughWeight iM_worthSum iM_firstRest iM_leastDrawn), (arI rM_r kM_r 287 fM_r), (arI rM_told kM_told 90 fM_told), (arI rM_st kM_st 90 fM_st), (arI rM_trial kM_trial 90 fM_trial), (arI rM_words kM_words 10 fM_words)]) hB rfl ht hP hD _ hMs hk1 hFc rfl
  clear hz1 hk1 hvm ht hB hMs
  rcases hw.2 with ⟨rfl, hc_1948⟩ | ⟨rfl, hc_1948⟩ | ⟨rfl, hc_1948⟩
  · skip
    refine lv_istore_n (lv' := [(2, .int 0), (0, .ref oM), (1, .int p0)]) hx hb dX7_proof_15 rfl hl (by decide) rfl (fun ls hl => ?_)
    refine lv_iload_n hx hb dX7_proof_16 rfl (lv_at hl 0 rfl) ?_
    refine lv_if_eq (tgt := 28) hx hb dX7_proof_17 (by decide) (fun _ => ?_) (fun c => absurd c (by decide))
    refine lv_aload_n hx hb dX7_proof_28 rfl (lv_at hl 1 rfl) ?_
    refine lv_iconst (v := 0) hx hb dX7_proof_29 (by decide) ?_
    refine lv_iload_n hx hb dX7_proof_30 rfl (lv_at hl 2 rfl) ?_
    have hFc := va_freeI hD hS hA
    refine va_calli (va_runV (As := [.int 0, .int p0]) (rest := []) ⟨hx, hb, hml, hown, hts⟩ (tX7_fewestFor l dC dI _ oM x_1945 rM_tape iM_taped iM_size iM_at iM_end iM_token iM_whole iM_nameSize iM_fault iM_place x_1946 rM_letters iM_failed iM_hasCourt rM_r fM_r kM_r rM_fresh rM_told fM_told kM_told rM_read rM_st fM_st kM_st rM_undone rM_kept iM_undos iM_images rM_fresher iM_fresherSize iM_scale iM_night rM_heardRow rM_cutRow iM_breaths iM_cutMany iM_allBreaths rM_trial fM_trial kM_trial rM_words fM_words kM_words iM_fewestBreaths iM_orderMany iM_orderSum iM_leastOrder rM_often iM_setMany iM_someOf iM_allOf iM_allWeight iM_enoughWeight iM_worthSum iM_firstRest iM_leastDrawn 0 p0 b_iM_taped b_iM_size b_iM_end b_iM_failed b_iM_hasCourt b_iM_undos b_iM_images b_iM_scale b_iM_breaths b_iM_cutMany (by assumption) (by assumption) (by assumption) (by assumption) (by assumption) ⟨hc_1948.2.1, hc_1948.2.2⟩) (cwV 2 hts (wd_V wd_961 wd_962 wd_963 wd_5 (wd_c wd_964)) rfl rfl rfl dv_yX7_fewestFor_2 ⟨Nat.le_of_ble_eq_true rfl, Nat.le_of_ble_eq_true rfl⟩) ⟨Pw.fb, recvX7 hK hP (q0 := 0) rfl, fun U hU hW => Pw.to hP hD hK hE hS hFc hU hW⟩ rfl rfl hl.1 rfl (lv_room (Nat.le_of_ble_eq_true rfl)) dX7_proof_31 ⟨Nat.le_of_ble_eq_true rfl, Nat.le_of_ble_eq_true rfl⟩) hS (fun q _ h => hFc q h) hFc (fun r u t H locs ht hvm hw hB hz1 hk1 hS => ?_)
    refine ex_2_0 hB (fun f_1950 f_1951 hB => ?_)
    obtain ⟨hP, hD⟩ := Bw.goA (ws' := [(oc7 oM x_1945 rM_tape iM_taped iM_size iM_at iM_end iM_token iM_whole iM_nameSize iM_fault iM_place x_1946 rM_letters iM_failed iM_hasCourt rM_r rM_fresh rM_told rM_read rM_st rM_undone rM_kept iM_undos iM_images rM_fresher iM_fresherSize iM_scale iM_night rM_heardRow rM_cutRow iM_breaths iM_cutMany iM_allBreaths rM_trial rM_words iM_fewestBreaths iM_orderMany iM_orderSum iM_leastOrder rM_often iM_setMany iM_someOf iM_allOf iM_allWeight iM_enoughWeight iM_worthSum iM_firstRest iM_leastDrawn), (arI rM_r kM_r 287 fM_r), (arI rM_told kM_told 90 fM_told), (arI rM_st kM_st 90 fM_st), (arI rM_trial kM_trial 90 f_1950), (arI rM_words kM_words 10 f_1951)]) hB rfl ht hFc rfl
    clear hz1 hk1 hvm ht hB
    obtain ⟨x_1952, rfl⟩ : ∃ z, z = r := ⟨_, rfl⟩
    exact wq_i hx hb hr 0 ⟨trivial, trivial⟩ (fun t ht hW => ⟨x_1945, x_1946, f_1950, f_1951, Bw.to hP hD hK ht hW⟩) hS dX7_proof_34 hlocks
  · skip
    refine lv_istore_n (lv' := [(2, .int 1), (0, .ref oM), (1, .int p0)]) hx hb dX7_proof_15 rfl hl (by decide) rfl (fun ls hl => ?_)
    refine lv_iload_n hx hb dX7_proof_16 rfl (lv_at hl 0 rfl) ?_
    refine lv_if_eq (tgt := 28) hx hb dX7_proof_17 (by decide) (fun c => absurd c (by decide)) (fun _ => ?_)
    refine lv_aload_n hx hb dX7_proof_20 rfl (lv_at hl 1 rfl) ?_
    refine lv_iload_n hx hb dX7_proof_21 rfl (lv_at hl 0 rfl) ?_
    have hMs := ml_of hD [true, false, false, false, false, false] (wc := [(oc7 oM x_1945 rM_tape iM_taped iM_size iM_at iM_end iM_token iM_whole iM_nameSize iM_fault iM_place x_1946 rM_letters iM_failed iM_hasCourt rM_r rM_fresh rM_told rM_read rM_st rM_undone rM_kept iM_undos iM_images rM_fresher iM_fresherSize iM_scale iM_night rM_heardRow rM_cutRow iM_breaths iM_cutMany iM_allBreaths rM_trial rM_words iM_fewestBreaths iM_orderMany iM_orderSum iM_leastOrder rM_often iM_setMany iM_someOf iM_allOf iM_allWeight iM_enoughWeight iM_worthSum iM_firstRest iM_leastDrawn)]) rfl
    have hFc := va_freeM hD hS hA _ hMs
    refine va_calli (va_runV (As := [.int 1]) (rest := []) ⟨hx, hb, hml, hown, hts⟩ (tX7_no l dC dI _ oM x_1945 rM_tape iM_taped iM_size iM_at iM_end iM_token iM_whole iM_nameSize iM_fault iM_place x_1946 rM_letters iM_failed iM_hasCourt rM_r rM_fresh rM_told rM_read rM_st rM_undone rM_kept iM_undos iM_images rM_fresher iM_fresherSize iM_scale iM_night rM_heardRow rM_cutRow iM_breaths iM_cutMany iM_allBreaths rM_trial rM_words iM_fewestBreaths iM_orderMany iM_orderSum iM_leastOrder rM_often iM_setMany iM_someOf iM_allOf iM_allWeight iM_enoughWeight iM_worthSum iM_firstRest iM_leastDrawn 1 b_iM_taped b_iM_size b_iM_end b_iM_failed b_iM_hasCourt b_iM_undos b_iM_images b_iM_scale b_iM_breaths b_iM_cutMany) (cwV 1 hts (wd_V wd_396 wd_397 wd_398 wd_5 (wd_c wd_399)) rfl rfl rfl dv_yX7_no_1 ⟨Nat.le_of_ble_eq_true rfl, Nat.le_of_ble_eq_true rfl⟩) ⟨Pw.fb, recvX7 hK hP (q0 := 0) rfl, fun U hU hW => Pw.to (hP.ms _ hMs) (hD.ms _ hMs) (hK.ms [false, false, false, false, false] rfl) hE hS hFc hU hW⟩ rfl rfl hl.1 rfl (lv_room (Nat.le_of_ble_eq_true rfl)) dX7_proof_22 ⟨Nat.le_of_ble_eq_true rfl, Nat.le_of_ble_eq_true rfl⟩) hS (fun q _ h => hFc q h) hFc (fun r u t H locs ht hvm hw hB hz1 hk1 hS => ?_)
    have hru9 := hw.2
    have hw := hw.1
    refine ex_1_1 hB (fun x_1954 e_x_1954_0 hB => ?_)
    obtain ⟨hP, hD⟩ := Bw.goN (ws' := [(oc7 oM x_1945 rM_tape iM_taped iM_size iM_at iM_end iM_token iM_whole iM_nameSize iM_fault iM_place x_1954 rM_letters iM_failed iM_hasCourt rM_r rM_fresh rM_told rM_read rM_st rM_undone rM_kept iM_undos iM_images rM_fresher iM_fresherSize iM_scale iM_night rM_heardRow rM_cutRow iM_breaths iM_cutMany iM_allBreaths rM_trial rM_words iM_fewestBreaths iM_orderMany iM_orderSum iM_leastOrder rM_often iM_setMany iM_someOf iM_allOf iM_allWeight iM_enoughWeight iM_worthSum iM_firstRest iM_leastDrawn), (arI rM_r kM_r 287 fM_r), (arI rM_told kM_told 90 fM_told), (arI rM_st kM_st 90 fM_st), (arI rM_trial kM_trial 90 fM_trial), (arI rM_words kM_words 10 fM_words)]) hB rfl ht hP hD _ hMs hk1 hFc rfl
    clear hz1 hk1 hvm ht hB hMs
    obtain ⟨x_1955, rfl⟩ : ∃ z, z = r := ⟨_, rfl⟩
    refine lv_goto (tgt := 34) hx hb dX7_proof_25 (by decide) ?_
    exact wq_i hx hb hr 0 ⟨trivial, trivial⟩ (fun t ht hW => ⟨x_1945, x_1954, fM_trial, fM_words, Bw.to hP hD hK ht hW⟩) hS dX7_proof_34 hlocks
  · skip
    refine lv_istore_n (lv' := [(2, .int 2), (0, .ref oM), (1, .int p0)]) hx hb dX7_proof_15 rfl hl (by decide) rfl (fun ls hl => ?_)
    refine lv_iload_n hx hb dX7_proof_16 rfl (lv_at hl 0 rfl) ?_
    refine lv_if_eq (tgt := 28) hx hb dX7_proof_17 (by decide) (fun c => absurd c (by decide)) (fun _ => ?_)
    refine lv_aload_n hx hb dX7_proof_20 rfl (lv_at hl 1 rfl) ?_
    refine lv_iload_n hx hb dX7_proof_21 rfl (lv_at hl 0 rfl) ?_
    have hMs := ml_of hD [true, false, false, false, false, false] (wc := [(oc7 oM x_1945 rM_tape iM_taped iM_size iM_at iM_end iM_token iM_whole iM_nameSize iM_fault iM_place x_1946 rM_letters iM_failed iM_hasCourt rM_r rM_fresh rM_told rM_read rM_st rM_undone rM_kept iM_undos iM_images rM_fresher iM_fresherSize iM_scale iM_night rM_heardRow rM_cutRow iM_breaths iM_cutMany iM_allBreaths rM_trial rM_words iM_fewestBreaths iM_orderMany iM_orderSum iM_leastOrder rM_often iM_setMany iM_someOf iM_allOf iM_allWeight iM_enoughWeight iM_worthSum iM_firstRest iM_leastDrawn)]) rfl
    have hFc := va_freeM hD hS hA _ hMs
    refine va_calli (va_runV (As := [.int 2]) (rest := []) ⟨hx, hb, hml, hown, hts⟩ (tX7_no l dC dI _ oM x_1945 rM_tape iM_taped iM_size iM_at iM_end iM_token iM_whole iM_nameSize iM_fault iM_place x_1946 rM_letters iM_failed iM_hasCourt rM_r rM_fresh rM_told rM_read rM_st rM_undone rM_kept iM_undos iM_images rM_fresher iM_fresherSize iM_scale iM_night rM_heardRow rM_cutRow iM_breaths iM_cutMany iM_allBreaths rM_trial rM_words iM_fewestBreaths iM_orderMany iM_orderSum iM_leastOrder rM_often iM_setMany iM_someOf iM_allOf iM_allWeight iM_enoughWeight iM_worthSum iM_firstRest iM_leastDrawn 2 b_iM_taped b_iM_size b_iM_end b_iM_failed b_iM_hasCourt b_iM_undos b_iM_images b_iM_scale b_iM_breaths b_iM_cutMany) (cwV 1 hts (wd_V wd_396 wd_397 wd_398 wd_5 (wd_c wd_399)) rfl rfl rfl dv_yX7_no_1 ⟨Nat.le_of_ble_eq_true rfl, Nat.le_of_ble_eq_true rfl⟩) ⟨Pw.fb, recvX7 hK hP (q0 := 0) rfl, fun U hU hW => Pw.to (hP.ms _ hMs) (hD.ms _ hMs) (hK.ms [false, false, false, false, false] rfl) hE hS hFc hU hW⟩ rfl rfl hl.1 rfl (lv_room (Nat.le_of_ble_eq_true rfl)) dX7_proof_22 ⟨Nat.le_of_ble_eq_true rfl, Nat.le_of_ble_eq_true rfl⟩) hS (fun q _ h => hFc q h) hFc (fun r u t H locs ht hvm hw hB hz1 hk1 hS => ?_)
    have hru9 := hw.2
    have hw := hw.1
    refine ex_1_1 hB (fun x_1957 e_x_1957_0 hB => ?_)
    obtain ⟨hP, hD⟩ := Bw.goN (ws' := [(oc7 oM x_1945 rM_tape iM_taped iM_size iM_at iM_end iM_token iM_whole iM_nameSize iM_fault iM_place x_1957 rM_letters iM_failed iM_hasCourt rM_r rM_fresh rM_told rM_read rM_st rM_undone rM_kept iM_undos iM_images rM_fresher iM_fresherSize iM_scale iM_night rM_heardRow rM_cutRow iM_breaths iM_cutMany iM_allBreaths rM_trial rM_words iM_fewestBreaths iM_orderMany iM_orderSum iM_leastOrder rM_often iM_setMany iM_someOf iM_allOf iM_allWeight iM_enoughWeight iM_worthSum iM_firstRest iM_leastDrawn), (arI rM_r kM_r 287 fM_r), (arI rM_told kM_told 90 fM_told), (arI rM_st kM_st 90 fM_st), (arI rM_trial kM_trial 90 fM_trial), (arI rM_words kM_words 10 fM_words)]) hB rfl ht hP hD _ hMs hk1 hFc rfl
    clear hz1 hk1 hvm ht hB hMs
    obtain ⟨x_1958, rfl⟩ : ∃ z, z = r := ⟨_, rfl⟩
    refine lv_goto (tgt := 34) hx hb dX7_proof_25 (by decide) ?_
    exact wq_i hx hb hr 0 ⟨trivial, trivial⟩ (fun t ht hW => ⟨x_1945, x_1957, fM_trial, fM_words, Bw.to hP hD hK ht hW⟩) hS dX7_proof_34 hlocks
set_option maxHeartbeats 4000000 in
set_option maxRecDepth 100000 in
theorem tX7_disproof (l : Launch) (dC : Nat → ClassId) (dI : Nat → Nat → Nat) (sz : Nat) (oM : Nat) (iM_thrown : Int32) (rM_tape : Nat) (iM_taped : Int32) (iM_size : Int32) (iM_at : Int32) (iM_end : Int32) (iM_token : Int32) (iM_whole : Int32) (iM_nameSize : Int32) (iM_fault : Int32) (iM_place : Int32) (iM_trouble : Int32) (rM_letters : Nat) (iM_failed : Int32) (iM_hasCourt : Int32) (rM_r : Nat) (fM_r : Nat → Int32) (kM_r : ClassId) (rM_fresh : Nat) (rM_told : Nat) (fM_told : Nat → Int32) (kM_told : ClassId) (rM_read : Nat) (rM_st : Nat) (fM_st : Nat → Int32) (kM_st : ClassId) (rM_undone : Nat) (rM_kept : Nat) (iM_undos : Int32) (iM_images : Int32) (rM_fresher : Nat) (iM_fresherSize : Int32) (iM_scale : Int32) (iM_night : Int32) (rM_heardRow : Nat) (rM_cutRow : Nat) (iM_breaths : Int32) (iM_cutMany : Int32) (iM_allBreaths : Int32) (rM_trial : Nat) (fM_trial : Nat → Int32) (kM_trial : ClassId) (rM_words : Nat) (fM_words : Nat → Int32) (kM_words : ClassId) (iM_fewestBreaths : Int32) (iM_orderMany : Int32) (iM_orderSum : Int32) (iM_leastOrder : Int32) (rM_often : Nat) (iM_setMany : Int32) (iM_someOf : Int32) (iM_allOf : Int32) (iM_allWeight : Int64) (iM_enoughWeight : Int64) (iM_worthSum : Int64) (iM_firstRest : Int32) (iM_leastDrawn : Int32) (p0 : Int32) (b_iM_taped : 0 ≤ iM_taped.toInt ∧ iM_taped.toInt ≤ 900) (b_iM_size : 0 ≤ iM_size.toInt ∧ iM_size.toInt ≤ 900) (b_iM_end : 0 ≤ iM_end.toInt ∧ iM_end.toInt ≤ 900) (b_iM_failed : 0 ≤ iM_failed.toInt ∧ iM_failed.toInt ≤ 1) (b_iM_hasCourt : 0 ≤ iM_hasCourt.toInt ∧ iM_hasCourt.toInt ≤ 1) (b_iM_undos : 0 ≤ iM_undos.toInt ∧ iM_undos.toInt ≤ 16) (b_iM_images : 0 ≤ iM_images.toInt ∧ iM_images.toInt ≤ 3) (b_iM_scale : 1 ≤ iM_scale.toInt ∧ iM_scale.toInt ≤ 1296) (b_iM_breaths : 0 ≤ iM_breaths.toInt ∧ iM_breaths.toInt ≤ 399) (b_iM_cutMany : 0 ≤ iM_cutMany.toInt ∧ iM_cutMany.toInt ≤ 399) (r_R : ROk fM_r) (r_C : iM_hasCourt.toInt ≤ 0 ∨ (1 ≤ (fM_r 1).toInt ∧ 0 ≤ (fM_r 6).toInt ∧ (fM_r 6).toInt < (fM_r 1).toInt)) (r_st : RowOk fM_r fM_st) (r_told : RowOk fM_r fM_told) (r_wst : WorOk fM_st)  : Met l yX7_disproof (Cond.code yX7_disproof cX7_disproof 3 (some .int) :: wG) ({ frames := 25, cells := 0, slots := 0, locals := 658 }) (va_Pc [.ref oM, .int p0] (Pw dC dI sz [(oc7 oM iM_thrown rM_tape iM_taped iM_size iM_at iM_end iM_token iM_whole iM_nameSize iM_fault iM_place iM_trouble rM_letters iM_failed iM_hasCourt rM_r rM_fresh rM_told rM_read rM_st rM_undone rM_kept iM_undos iM_images rM_fresher iM_fresherSize iM_scale iM_night rM_heardRow rM_cutRow iM_breaths iM_cutMany iM_allBreaths rM_trial rM_words iM_fewestBreaths iM_orderMany iM_orderSum iM_leastOrder rM_often iM_setMany iM_someOf iM_allOf iM_allWeight iM_enoughWeight iM_worthSum iM_firstRest iM_leastDrawn), (arI rM_r kM_r 287 fM_r), (arI rM_told kM_told 90 fM_told), (arI rM_st kM_st 90 fM_st), (arI rM_trial kM_trial 90 fM_trial), (arI rM_words kM_words 10 fM_words)] [(kM_r, .int), (kM_told, .int), (kM_st, .int), (kM_trial, .int), (kM_words, .int)])) (va_Qi (fun (r : Int32) (_ : Nat) => True ∧ True) (fun (_ : Nat) (t : State) => ∃ (niM_thrown : Int32) (niM_trouble : Int32) (nfM_trial : Nat → Int32) (nfM_words : Nat → Int32), Bw dC dI (va_A [(oc7 oM iM_thrown rM_tape iM_taped iM_size iM_at iM_end iM_token iM_whole iM_nameSize iM_fault iM_place iM_trouble rM_letters iM_failed iM_hasCourt rM_r rM_fresh rM_told rM_read rM_st rM_undone rM_kept iM_undos iM_images rM_fresher iM_fresherSize iM_scale iM_night rM_heardRow rM_cutRow iM_breaths iM_cutMany iM_allBreaths rM_trial rM_words iM_fewestBreaths iM_orderMany iM_orderSum iM_leastOrder rM_often iM_setMany iM_someOf iM_allOf iM_allWeight iM_enoughWeight iM_worthSum iM_firstRest iM_leastDrawn), (arI rM_r kM_r 287 fM_r), (arI rM_told kM_told 90 fM_told), (arI rM_st kM_st 90 fM_st), (arI rM_trial kM_trial 90 fM_trial), (arI rM_words kM_words 10 fM_words)] sz) [(oc7 oM niM_thrown rM_tape iM_taped iM_size iM_at iM_end iM_token iM_whole iM_nameSize iM_fault iM_place niM_trouble rM_letters iM_failed iM_hasCourt rM_r rM_fresh rM_told rM_read rM_st rM_undone rM_kept iM_undos iM_images rM_fresher iM_fresherSize iM_scale iM_night rM_heardRow rM_cutRow iM_breaths iM_cutMany iM_allBreaths rM_trial rM_words iM_fewestBreaths iM_orderMany iM_orderSum iM_leastOrder rM_often iM_setMany iM_someOf iM_allOf iM_allWeight iM_enoughWeight iM_worthSum iM_firstRest iM_leastDrawn), (arI rM_r kM_r 287 fM_r), (arI rM_told kM_told 90 fM_told), (arI rM_st kM_st 90 fM_st), (arI rM_trial kM_trial 90 nfM_trial), (arI rM_words kM_words 10 nfM_words)] [(kM_r, .int), (kM_told, .int), (kM_st, .int), (kM_trial, .int), (kM_words, .int)] t) (va_A [(oc7 oM iM_thrown rM_tape iM_taped iM_size iM_at iM_end iM_token iM_whole iM_nameSize iM_fault iM_place iM_trouble rM_letters iM_failed iM_hasCourt rM_r rM_fresh rM_told rM_read rM_st rM_undone rM_kept iM_undos iM_images rM_fresher iM_fresherSize iM_scale iM_night rM_heardRow rM_cutRow iM_breaths iM_cutMany iM_allBreaths rM_trial rM_words iM_fewestBreaths iM_orderMany iM_orderSum iM_leastOrder rM_often iM_setMany iM_someOf iM_allOf iM_allWeight iM_enoughWeight iM_worthSum iM_firstRest iM_leastDrawn), (arI rM_r kM_r 287 fM_r), (arI rM_told kM_told 90 fM_told), (arI rM_st kM_st 90 fM_st), (arI rM_trial kM_trial 90 fM_trial), (arI rM_words kM_words 10 fM_words)] sz)) 0 0 (va_A [(oc7 oM iM_thrown rM_tape iM_taped iM_size iM_at iM_end iM_token iM_whole iM_nameSize iM_fault iM_place iM_trouble rM_letters iM_failed iM_hasCourt rM_r rM_fresh rM_told rM_read rM_st rM_undone rM_kept iM_undos iM_images rM_fresher iM_fresherSize iM_scale iM_night rM_heardRow rM_cutRow iM_breaths iM_cutMany iM_allBreaths rM_trial rM_words iM_fewestBreaths iM_orderMany iM_orderSum iM_leastOrder rM_often iM_setMany iM_someOf iM_allOf iM_allWeight iM_enoughWeight iM_worthSum iM_firstRest iM_leastDrawn), (arI rM_r kM_r 287 fM_r), (arI rM_told kM_told 90 fM_told), (arI rM_st kM_st 90 fM_st), (arI rM_trial kM_trial 90 fM_trial), (arI rM_words kM_words 10 fM_words)] sz) := by
  refine Met.ofW (cc := cX7_disproof) (maxL := 3) (ret := (some .int)) pnX7 rfl ?_
  intro p e s m args below meth c s₁ B hml hv
  obtain ⟨rfl, hsz, hP, hK, hD0, hE⟩ := hv
  have hx := B.exec
  have hb := B.bytes
  have hr := B.returns
  have hts : ∀ w ∈ wG, w.before ([.ref oM, .int p0] : List Value).toArray s = true := fun w h => atoms_spec (ws := Cond.code yX7_disproof cX7_disproof 3 (some .int) :: wG) B.pre w (List.mem_cons_of_mem _ h)
  have hown : s.vm.findClass RX7 = some m.cls := own_of B.named rfl
  have hlocks := B.notSynchronized
  subst hsz
  have hD := hD0.self (sz := s.heap.size)
  generalize hAe : va_A [(oc7 oM iM_thrown rM_tape iM_taped iM_size iM_at iM_end iM_token iM_whole iM_nameSize iM_fault iM_place iM_trouble rM_letters iM_failed iM_hasCourt rM_r rM_fresh rM_told rM_read rM_st rM_undone rM_kept iM_undos iM_images rM_fresher iM_fresherSize iM_scale iM_night rM_heardRow rM_cutRow iM_breaths iM_cutMany iM_allBreaths rM_trial rM_words iM_fewestBreaths iM_orderMany iM_orderSum iM_leastOrder rM_often iM_setMany iM_someOf iM_allOf iM_allWeight iM_enoughWeight iM_worthSum iM_firstRest iM_leastDrawn), (arI rM_r kM_r 287 fM_r), (arI rM_told kM_told 90 fM_told), (arI rM_st kM_st 90 fM_st), (arI rM_trial kM_trial 90 fM_trial), (arI rM_words kM_words 10 fM_words)] s.heap.size = A at hD hE ⊢
  have hA : ∀ q : Nat, s.heap.size ≤ q → A q := fun q h => by rw [← hAe]; exact Or.inr h
  have hS : va_S A s.heap s.heap [] := va_S.rf
  have hl := lv_entry ([.ref oM, .int p0]) (n := 3) (Nat.le_of_ble_eq_true rfl)
  rw [lg_entry_eq]
  generalize (lg_sl ([.ref oM, .int p0]) ++ List.replicate (3 - (lg_sl ([.ref oM, .int p0])).length) Slot.unset).toArray = ls at hl ⊢
  have hl : lv_has ls 3 [(0, .ref oM), (1, .int p0)] := hl
  have s_slips := r_R.slips
  have s_nodes := r_R.nodes
  have s_uns := r_R.uns
  refine lv_aload_n hx hb dX7_disproof_0 rfl (lv_at hl 0 rfl) ?_
  have hMs := ml_of hD [true, false, false, false, false, false] (wc := [(oc7 oM iM_thrown rM_tape iM_taped iM_size iM_at iM_end iM_token iM_whole iM_nameSize iM_fault iM_place iM_trouble rM_letters iM_failed iM_hasCourt rM_r rM_fresh rM_told rM_read rM_st rM_undone rM_kept iM_undos iM_images rM_fresher iM_fresherSize iM_scale iM_night rM_heardRow rM_cutRow iM_breaths iM_cutMany iM_allBreaths rM_trial rM_words iM_fewestBreaths iM_orderMany iM_orderSum iM_leastOrder rM_often iM_setMany iM_someOf iM_allOf iM_allWeight iM_enoughWeight iM_worthSum iM_firstRest iM_leastDrawn)]) rfl
  have hFc := va_freeM hD hS hA _ hMs
  refine va_callv (va_runV (As := []) (rest := []) ⟨hx, hb, hml, hown, hts⟩ (tX7_good l dC dI _ oM iM_thrown rM_tape iM_taped iM_size iM_at iM_end iM_token iM_whole iM_nameSize iM_fault iM_place iM_trouble rM_letters iM_failed iM_hasCourt rM_r rM_fresh rM_told rM_read rM_st rM_undone rM_kept iM_undos iM_images rM_fresher iM_fresherSize iM_scale iM_night rM_heardRow rM_cutRow iM_breaths iM_cutMany iM_allBreaths rM_trial rM_words iM_fewestBreaths iM_orderMany iM_orderSum iM_leastOrder rM_often iM_setMany iM_someOf iM_allOf iM_allWeight iM_enoughWeight iM_worthSum iM_firstRest iM_leastDrawn b_iM_taped b_iM_size b_iM_end b_iM_failed b_iM_hasCourt b_iM_undos b_iM_images b_iM_scale b_iM_breaths b_iM_cutMany) (cwV 0 hts (wd_V wd_388 wd_389 wd_390 wd_5 (wd_c wd_391)) rfl rfl rfl dv_yX7_good_0 ⟨Nat.le_of_ble_eq_true rfl, Nat.le_of_ble_eq_true rfl⟩) ⟨Pw.fb, recvX7 hK hP (q0 := 0) rfl, fun U hU hW => Pw.to (hP.ms _ hMs) (hD.ms _ hMs) (hK.ms [false, false, false, false, false] rfl) hE hS hFc hU hW⟩ rfl rfl hl.1 rfl (lv_room (Nat.le_of_ble_eq_true rfl)) dX7_disproof_1 ⟨Nat.le_of_ble_eq_true rfl, Nat.le_of_ble_eq_true rfl⟩) hS (fun q _ h => hFc q h) hFc (fun u t H locs ht hvm hw hB hz1 hk1 hS => ?_)
  refine ex_2_3 hB (fun x_1973 x_1974 b_x_1973 b_x_1974 e_x_1973_0 hB => ?_)
  obtain ⟨hP, hD⟩ := Bw.goN (ws' := [(oc7 oM x_1973 rM_tape iM_taped iM_size iM_at iM_end iM_token iM_whole iM_nameSize iM_fault iM_place x_1974 rM_letters iM_failed iM_hasCourt rM_r rM_fresh rM_told rM_read rM_st rM_undone rM_kept iM_undos iM_images rM_fresher iM_fresherSize iM_scale iM_night rM_heardRow rM_cutRow iM_breaths iM_cutMany iM_allBreaths rM_trial rM_words iM_fewestBreaths iM_orderMany iM_orderSum iM_leastOrder rM_often iM_setMany iM_someOf iM_allOf iM_allWeight iM_enoughWeight iM_worthSum iM_firstRest iM_leastDrawn), (arI rM_r kM_r 287 fM_r), (arI rM_told kM_told 90 fM_told), (arI rM_st kM_st 90 fM_st), (arI rM_trial kM_trial 90 fM_trial), (arI rM_words kM_words 10 fM_words)]) hB rfl ht hP hD _ hMs hk1 hFc rfl
  clear hz1 hk1 hvm ht hB hMs
  refine lv_aload_n hx hb dX7_disproof_4 rfl (lv_at hl 0 rfl) ?_
  refine lv_iload_n hx hb dX7_disproof_5 rfl (lv_at hl 1 rfl) ?_
  refine lv_iconst (v := 0) hx hb dX7_disproof_6 (by decide) ?_
  refine lv_bipush (v := 100) hx hb dX7_disproof_7 (by decide) ?_
  have hFc : ∀ q, va_A [] _ q → A q := fun q h => hA q (Nat.le_trans hS.1 (va_nilA h))
  refine va_calli (va_runS (As := [.int p0, .int 0, .int 100]) (rest := [.ref oM]) ⟨hx, hb, hml, hown, hts⟩ (tX7_in l dC dI _ p0 0 100 ) (va_cwS 3 hts (wd_S wd_393 wd_394 wd_5 (wd_c wd_395)) rfl rfl rfl ds_yX7_in_3 ⟨Nat.le_of_ble_eq_true rfl, Nat.le_of_ble_eq_true rfl⟩) ⟨Pw.fb, fun U hU hW => Pn.to hK hE hS hA hU hW⟩ rfl rfl hl.1 rfl (lv_room (Nat.le_of_ble_eq_true rfl)) dX7_disproof_9 ⟨Nat.le_of_ble_eq_true rfl, Nat.le_of_ble_eq_true rfl⟩) hS (fun q _ h => hFc q h) hFc (fun r u t H locs ht hvm hw hB hz1 hk1 hS => ?_)
  obtain ⟨hP, hD, hK⟩ := Bw.same ht hvm hP hD hK hk1 hFc
  clear hz1 hk1 hvm ht hB
  have hq9 := hw.2
  have hw := hw.1
  obtain ⟨x_1975, rfl⟩ : ∃ z, z = r := ⟨_, rfl⟩
  have bx_1975 := hw.1
  have dx_1975 := bz_tb bx_1975
  have px_1975 := hw.2
  have hMs := ml_of hD [true, true, false, false, false, false] (wc := [(oc7 oM x_1973 rM_tape iM_taped iM_size iM_at iM_end iM_token iM_whole iM_nameSize iM_fault iM_place x_1974 rM_letters iM_failed iM_hasCourt rM_r rM_fresh rM_told rM_read rM_st rM_undone rM_kept iM_undos iM_images rM_fresher iM_fresherSize iM_scale iM_night rM_heardRow rM_cutRow iM_breaths iM_cutMany iM_allBreaths rM_trial rM_words iM_fewestBreaths iM_orderMany iM_orderSum iM_leastOrder rM_often iM_setMany iM_someOf iM_allOf iM_allWeight iM_enoughWeight iM_worthSum iM_firstRest iM_leastDrawn), (arI rM_r kM_r 287 fM_r)]) rfl
  have hFc := va_freeM hD hS hA _ hMs
  refine va_calli (va_runV (As := [.int x_1975]) (rest := []) ⟨hx, hb, hml, hown, hts⟩ (tX7_why l dC dI _ oM x_1973 rM_tape iM_taped iM_size iM_at iM_end iM_token iM_whole iM_nameSize iM_fault iM_place x_1974 rM_letters iM_failed iM_hasCourt rM_r fM_r kM_r rM_fresh rM_told rM_read rM_st rM_undone rM_kept iM_undos iM_images rM_fresher iM_fresherSize iM_scale iM_night rM_heardRow rM_cutRow iM_breaths iM_cutMany iM_allBreaths rM_trial rM_words iM_fewestBreaths iM_orderMany iM_orderSum iM_leastOrder rM_often iM_setMany iM_someOf iM_allOf iM_allWeight iM_enoughWeight iM_worthSum iM_firstRest iM_leastDrawn x_1975 b_iM_taped b_iM_size b_iM_end b_iM_failed b_iM_hasCourt b_iM_undos b_iM_images b_iM_scale b_iM_breaths b_iM_cutMany (by assumption) (by assumption) ⟨dx_1975.1, dx_1975.2⟩) (cwV 1 hts (wd_V wd_882 wd_883 wd_884 wd_5 (wd_c wd_885)) rfl rfl rfl dv_yX7_why_1 ⟨Nat.le_of_ble_eq_true rfl, Nat.le_of_ble_eq_true rfl⟩) ⟨Pw.fb, recvX7 hK hP (q0 := 0) rfl, fun U hU hW => Pw.to (hP.ms _ hMs) (hD.ms _ hMs) (hK.ms [true, false, false, false, false] rfl) hE hS hFc hU hW⟩ rfl rfl hl.1 rfl (lv_room (Nat.le_of_ble_eq_true rfl)) dX7_disproof_12 ⟨Nat.le_of_ble_eq_true rfl, Nat.le_of_ble_eq_true rfl⟩) hS (fun q _ h => hFc q h) hFc (fun r u t H locs ht hvm hw hB hz1 hk1 hS => ?_)
  have hru9 := hw.2
  have hw := hw.1
  obtain ⟨hP, hD⟩ := Bw.goN (ws' := [(oc7 oM x_1973 rM_tape iM_taped iM_size iM_at iM_end iM_token iM_whole iM_nameSize iM_fault iM_place x_1974 rM_letters iM_failed iM_hasCourt rM_r rM_fresh rM_told rM_read rM_st rM_undone rM_kept iM_undos iM_images rM_fresher iM_fresherSize iM_scale iM_night rM_heardRow rM_cutRow iM_breaths iM_cutMany iM_allBreaths rM_trial rM_words iM_fewestBreaths iM_orderMany iM_orderSum iM_leastOrder rM_often iM_setMany iM_someOf iM_allOf iM_allWeight iM_enoughWeight iM_worthSum iM_firstRest iM_leastDrawn), (arI rM_r kM_r 287 fM_r), (arI rM_told kM_told 90 fM_told), (arI rM_st kM_st 90 fM_st), (arI rM_trial kM_trial 90 fM_trial), (arI rM_words kM_words 10 fM_words)]) hB rfl ht hP hD _ hMs hk1 hFc rfl
  clear hz1 hk1 hvm ht hB hMs
  rcases hw.2 with ⟨rfl, hc_1976⟩ | ⟨rfl, hc_1976⟩ | ⟨rfl, hc_1976⟩
  · skip
    refine lv_istore_n (lv' := [(2, .int 0), (0, .ref oM), (1, .int p0)]) hx hb dX7_disproof_15 rfl hl (by decide) rfl (fun ls hl => ?_)
    refine lv_iload_n hx hb dX7_disproof_16 rfl (lv_at hl 0 rfl) ?_
    refine lv_if_eq (tgt := 28) hx hb dX7_disproof_17 (by decide) (fun _ => ?_) (fun c => absurd c (by decide))
    refine lv_aload_n hx hb dX7_disproof_28 rfl (lv_at hl 1 rfl) ?_
    refine lv_iconst (v := 1) hx hb dX7_disproof_29 (by decide) ?_
    refine lv_iload_n hx hb dX7_disproof_30 rfl (lv_at hl 2 rfl) ?_
    have hFc := va_freeI hD hS hA
    refine va_calli (va_runV (As := [.int 1, .int p0]) (rest := []) ⟨hx, hb, hml, hown, hts⟩ (tX7_fewestFor l dC dI _ oM x_1973 rM_tape iM_taped iM_size iM_at iM_end iM_token iM_whole iM_nameSize iM_fault iM_place x_1974 rM_letters iM_failed iM_hasCourt rM_r fM_r kM_r rM_fresh rM_told fM_told kM_told rM_read rM_st fM_st kM_st rM_undone rM_kept iM_undos iM_images rM_fresher iM_fresherSize iM_scale iM_night rM_heardRow rM_cutRow iM_breaths iM_cutMany iM_allBreaths rM_trial fM_trial kM_trial rM_words fM_words kM_words iM_fewestBreaths iM_orderMany iM_orderSum iM_leastOrder rM_often iM_setMany iM_someOf iM_allOf iM_allWeight iM_enoughWeight iM_worthSum iM_firstRest iM_leastDrawn 1 p0 b_iM_taped b_iM_size b_iM_end b_iM_failed b_iM_hasCourt b_iM_undos b_iM_images b_iM_scale b_iM_breaths b_iM_cutMany (by assumption) (by assumption) (by assumption) (by assumption) (by assumption) ⟨hc_1976.2.1, hc_1976.2.2⟩) (cwV 2 hts (wd_V wd_961 wd_962 wd_963 wd_5 (wd_c wd_964)) rfl rfl rfl dv_yX7_fewestFor_2 ⟨Nat.le_of_ble_eq_true rfl, Nat.le_of_ble_eq_true rfl⟩) ⟨Pw.fb, recvX7 hK hP (q0 := 0) rfl, fun U hU hW => Pw.to hP hD hK hE hS hFc hU hW⟩ rfl rfl hl.1 rfl (lv_room (Nat.le_of_ble_eq_true rfl)) dX7_disproof_31 ⟨Nat.le_of_ble_eq_true rfl, Nat.le_of_ble_eq_true rfl⟩) hS (fun q _ h => hFc q h) hFc (fun r u t H locs ht hvm hw hB hz1 hk1 hS => ?_)
    refine ex_2_0 hB (fun f_1978 f_1979 hB => ?_)
    obtain ⟨hP, hD⟩ := Bw.goA (ws' := [(oc7 oM x_1973 rM_tape iM_taped iM_size iM_at iM_end iM_token iM_whole iM_nameSize iM_fault iM_place x_1974 rM_letters iM_failed iM_hasCourt rM_r rM_fresh rM_told rM_read rM_st rM_undone rM_kept iM_undos iM_images rM_fresher iM_fresherSize iM_scale iM_night rM_heardRow rM_cutRow iM_breaths iM_cutMany iM_allBreaths rM_trial rM_words iM_fewestBreaths iM_orderMany iM_orderSum iM_leastOrder rM_often iM_setMany iM_someOf iM_allOf iM_allWeight iM_enoughWeight iM_worthSum iM_firstRest iM_leastDrawn), (arI rM_r kM_r 287 fM_r), (arI rM_told kM_told 90 fM_told), (arI rM_st kM_st 90 fM_st), (arI rM_trial kM_trial 90 f_1978), (arI rM_words kM_words 10 f_1979)]) hB rfl ht hFc rfl
    clear hz1 hk1 hvm ht hB
    obtain ⟨x_1980, rfl⟩ : ∃ z, z = r := ⟨_, rfl⟩
    exact wq_i hx hb hr 0 ⟨trivial, trivial⟩ (fun t ht hW => ⟨x_1973, x_1974, f_1978, f_1979, Bw.to hP hD hK ht hW⟩) hS dX7_disproof_34 hlocks
  · skip
    refine lv_istore_n (lv' := [(2, .int 1), (0, .ref oM), (1, .int p0)]) hx hb dX7_disproof_15 rfl hl (by decide) rfl (fun ls hl => ?_)
    refine lv_iload_n hx hb dX7_disproof_16 rfl (lv_at hl 0 rfl) ?_
    refine lv_if_eq (tgt := 28) hx hb dX7_disproof_17 (by decide) (fun c => absurd c (by decide)) (fun _ => ?_)
    refine lv_aload_n hx hb dX7_disproof_20 rfl (lv_at hl 1 rfl) ?_
    refine lv_iload_n hx hb dX7_disproof_21 rfl (lv_at hl 0 rfl) ?_
    have hMs := ml_of hD [true, false, false, false, false, false] (wc := [(oc7 oM x_1973 rM_tape iM_taped iM_size iM_at iM_end iM_token iM_whole iM_nameSize iM_fault iM_place x_1974 rM_letters iM_failed iM_hasCourt rM_r rM_fresh rM_told rM_read rM_st rM_undone rM_kept iM_undos iM_images rM_fresher iM_fresherSize iM_scale iM_night rM_heardRow rM_cutRow iM_breaths iM_cutMany iM_allBreaths rM_trial rM_words iM_fewestBreaths iM_orderMany iM_orderSum iM_leastOrder rM_often iM_setMany iM_someOf iM_allOf iM_allWeight iM_enoughWeight iM_worthSum iM_firstRest iM_leastDrawn)]) rfl
    have hFc := va_freeM hD hS hA _ hMs
    refine va_calli (va_runV (As := [.int 1]) (rest := []) ⟨hx, hb, hml, hown, hts⟩ (tX7_no l dC dI _ oM x_1973 rM_tape iM_taped iM_size iM_at iM_end iM_token iM_whole iM_nameSize iM_fault iM_place x_1974 rM_letters iM_failed iM_hasCourt rM_r rM_fresh rM_told rM_read rM_st rM_undone rM_kept iM_undos iM_images rM_fresher iM_fresherSize iM_scale iM_night rM_heardRow rM_cutRow iM_breaths iM_cutMany iM_allBreaths rM_trial rM_words iM_fewestBreaths iM_orderMany iM_orderSum iM_leastOrder rM_often iM_setMany iM_someOf iM_allOf iM_allWeight iM_enoughWeight iM_worthSum iM_firstRest iM_leastDrawn 1 b_iM_taped b_iM_size b_iM_end b_iM_failed b_iM_hasCourt b_iM_undos b_iM_images b_iM_scale b_iM_breaths b_iM_cutMany) (cwV 1 hts (wd_V wd_396 wd_397 wd_398 wd_5 (wd_c wd_399)) rfl rfl rfl dv_yX7_no_1 ⟨Nat.le_of_ble_eq_true rfl, Nat.le_of_ble_eq_true rfl⟩) ⟨Pw.fb, recvX7 hK hP (q0 := 0) rfl, fun U hU hW => Pw.to (hP.ms _ hMs) (hD.ms _ hMs) (hK.ms [false, false, false, false, false] rfl) hE hS hFc hU hW⟩ rfl rfl hl.1 rfl (lv_room (Nat.le_of_ble_eq_true rfl)) dX7_disproof_22 ⟨Nat.le_of_ble_eq_true rfl, Nat.le_of_ble_eq_true rfl⟩) hS (fun q _ h => hFc q h) hFc (fun r u t H locs ht hvm hw hB hz1 hk1 hS => ?_)
    have hru9 := hw.2
    have hw := hw.1
    refine ex_1_1 hB (fun x_1982 e_x_1982_0 hB => ?_)
    obtain ⟨hP, hD⟩ := Bw.goN (ws' := [(oc7 oM x_1973 rM_tape iM_taped iM_size iM_at iM_end iM_token iM_whole iM_nameSize iM_fault iM_place x_1982 rM_letters iM_failed iM_hasCourt rM_r rM_fresh rM_told rM_read rM_st rM_undone rM_kept iM_undos iM_images rM_fresher iM_fresherSize iM_scale iM_night rM_heardRow rM_cutRow iM_breaths iM_cutMany iM_allBreaths rM_trial rM_words iM_fewestBreaths iM_orderMany iM_orderSum iM_leastOrder rM_often iM_setMany iM_someOf iM_allOf iM_allWeight iM_enoughWeight iM_worthSum iM_firstRest iM_leastDrawn), (arI rM_r kM_r 287 fM_r), (arI rM_told kM_told 90 fM_told), (arI rM_st kM_st 90 fM_st), (arI rM_trial kM_trial 90 fM_trial), (arI rM_words kM_words 10 fM_words)]) hB rfl ht hP hD _ hMs hk1 hFc rfl
    clear hz1 hk1 hvm ht hB hMs
    obtain ⟨x_1983, rfl⟩ : ∃ z, z = r := ⟨_, rfl⟩
    refine lv_goto (tgt := 34) hx hb dX7_disproof_25 (by decide) ?_
    exact wq_i hx hb hr 0 ⟨trivial, trivial⟩ (fun t ht hW => ⟨x_1973, x_1982, fM_trial, fM_words, Bw.to hP hD hK ht hW⟩) hS dX7_disproof_34 hlocks
  · skip
    refine lv_istore_n (lv' := [(2, .int 2), (0, .ref oM), (1, .int p0)]) hx hb dX7_disproof_15 rfl hl (by decide) rfl (fun ls hl => ?_)
    refine lv_iload_n hx hb dX7_disproof_16 rfl (lv_at hl 0 rfl) ?_
    refine lv_if_eq (tgt := 28) hx hb dX7_disproof_17 (by decide) (fun c => absurd c (by decide)) (fun _ => ?_)
    refine lv_aload_n hx hb dX7_disproof_20 rfl (lv_at hl 1 rfl) ?_
    refine lv_iload_n hx hb dX7_disproof_21 rfl (lv_at hl 0 rfl) ?_
    have hMs := ml_of hD [true, false, false, false, false, false] (wc := [(oc7 oM x_1973 rM_tape iM_taped iM_size iM_at iM_end iM_token iM_whole iM_nameSize iM_fault iM_place x_1974 rM_letters iM_failed iM_hasCourt rM_r rM_fresh rM_told rM_read rM_st rM_undone rM_kept iM_undos iM_images rM_fresher iM_fresherSize iM_scale iM_night rM_heardRow rM_cutRow iM_breaths iM_cutMany iM_allBreaths rM_trial rM_words iM_fewestBreaths iM_orderMany iM_orderSum iM_leastOrder rM_often iM_setMany iM_someOf iM_allOf iM_allWeight iM_enoughWeight iM_worthSum iM_firstRest iM_leastDrawn)]) rfl
    have hFc := va_freeM hD hS hA _ hMs
    refine va_calli (va_runV (As := [.int 2]) (rest := []) ⟨hx, hb, hml, hown, hts⟩ (tX7_no l dC dI _ oM x_1973 rM_tape iM_taped iM_size iM_at iM_end iM_token iM_whole iM_nameSize iM_fault iM_place x_1974 rM_letters iM_failed iM_hasCourt rM_r rM_fresh rM_told rM_read rM_st rM_undone rM_kept iM_undos iM_images rM_fresher iM_fresherSize iM_scale iM_night rM_heardRow rM_cutRow iM_breaths iM_cutMany iM_allBreaths rM_trial rM_words iM_fewestBreaths iM_orderMany iM_orderSum iM_leastOrder rM_often iM_setMany iM_someOf iM_allOf iM_allWeight iM_enoughWeight iM_worthSum iM_firstRest iM_leastDrawn 2 b_iM_taped b_iM_size b_iM_end b_iM_failed b_iM_hasCourt b_iM_undos b_iM_images b_iM_scale b_iM_breaths b_iM_cutMany) (cwV 1 hts (wd_V wd_396 wd_397 wd_398 wd_5 (wd_c wd_399)) rfl rfl rfl dv_yX7_no_1 ⟨Nat.le_of_ble_eq_true rfl, Nat.le_of_ble_eq_true rfl⟩) ⟨Pw.fb, recvX7 hK hP (q0 := 0) rfl, fun U hU hW => Pw.to (hP.ms _ hMs) (hD.ms _ hMs) (hK.ms [false, false, false, false, false] rfl) hE hS hFc hU hW⟩ rfl rfl hl.1 rfl (lv_room (Nat.le_of_ble_eq_true rfl)) dX7_disproof_22 ⟨Nat.le_of_ble_eq_true rfl, Nat.le_of_ble_eq_true rfl⟩) hS (fun q _ h => hFc q h) hFc (fun r u t H locs ht hvm hw hB hz1 hk1 hS => ?_)
    have hru9 := hw.2
    have hw := hw.1
    refine ex_1_1 hB (fun x_1985 e_x_1985_0 hB => ?_)
    obtain ⟨hP, hD⟩ := Bw.goN (ws' := [(oc7 oM x_1973 rM_tape iM_taped iM_size iM_at iM_end iM_token iM_whole iM_nameSize iM_fault iM_place x_1985 rM_letters iM_failed iM_hasCourt rM_r rM_fresh rM_told rM_read rM_st rM_undone rM_kept iM_undos iM_images rM_fresher iM_fresherSize iM_scale iM_night rM_heardRow rM_cutRow iM_breaths iM_cutMany iM_allBreaths rM_trial rM_words iM_fewestBreaths iM_orderMany iM_orderSum iM_leastOrder rM_often iM_setMany iM_someOf iM_allOf iM_allWeight iM_enoughWeight iM_worthSum iM_firstRest iM_leastDrawn), (arI rM_r kM_r 287 fM_r), (arI rM_told kM_told 90 fM_told), (arI rM_st kM_st 90 fM_st), (arI rM_trial kM_trial 90 fM_trial), (arI rM_words kM_words 10 fM_words)]) hB rfl ht hP hD _ hMs hk1 hFc rfl
    clear hz1 hk1 hvm ht hB hMs
    obtain ⟨x_1986, rfl⟩ : ∃ z, z = r := ⟨_, rfl⟩
    refine lv_goto (tgt := 34) hx hb dX7_disproof_25 (by decide) ?_
    exact wq_i hx hb hr 0 ⟨trivial, trivial⟩ (fun t ht hW => ⟨x_1973, x_1985, fM_trial, fM_words, Bw.to hP hD hK ht hW⟩) hS dX7_disproof_34 hlocks
set_option maxHeartbeats 4000000 in
set_option maxRecDepth 100000 in
theorem tX7_sure (l : Launch) (dC : Nat → ClassId) (dI : Nat → Nat → Nat) (sz : Nat) (oM : Nat) (iM_thrown : Int32) (rM_tape : Nat) (iM_taped : Int32) (iM_size : Int32) (iM_at : Int32) (iM_end : Int32) (iM_token : Int32) (iM_whole : Int32) (iM_nameSize : Int32) (iM_fault : Int32) (iM_place : Int32) (iM_trouble : Int32) (rM_letters : Nat) (iM_failed : Int32) (iM_hasCourt : Int32) (rM_r : Nat) (fM_r : Nat → Int32) (kM_r : ClassId) (rM_fresh : Nat) (rM_told : Nat) (fM_told : Nat → Int32) (kM_told : ClassId) (rM_read : Nat) (rM_st : Nat) (fM_st : Nat → Int32) (kM_st : ClassId) (rM_undone : Nat) (rM_kept : Nat) (iM_undos : Int32) (iM_images : Int32) (rM_fresher : Nat) (iM_fresherSize : Int32) (iM_scale : Int32) (iM_night : Int32) (rM_heardRow : Nat) (rM_cutRow : Nat) (iM_breaths : Int32) (iM_cutMany : Int32) (iM_allBreaths : Int32) (rM_trial : Nat) (fM_trial : Nat → Int32) (kM_trial : ClassId) (rM_words : Nat) (fM_words : Nat → Int32) (kM_words : ClassId) (iM_fewestBreaths : Int32) (iM_orderMany : Int32) (iM_orderSum : Int32) (iM_leastOrder : Int32) (rM_often : Nat) (iM_setMany : Int32) (iM_someOf : Int32) (iM_allOf : Int32) (iM_allWeight : Int64) (iM_enoughWeight : Int64) (iM_worthSum : Int64) (iM_firstRest : Int32) (iM_leastDrawn : Int32) (b_iM_taped : 0 ≤ iM_taped.toInt ∧ iM_taped.toInt ≤ 900) (b_iM_size : 0 ≤ iM_size.toInt ∧ iM_size.toInt ≤ 900) (b_iM_end : 0 ≤ iM_end.toInt ∧ iM_end.toInt ≤ 900) (b_iM_failed : 0 ≤ iM_failed.toInt ∧ iM_failed.toInt ≤ 1) (b_iM_hasCourt : 0 ≤ iM_hasCourt.toInt ∧ iM_hasCourt.toInt ≤ 1) (b_iM_undos : 0 ≤ iM_undos.toInt ∧ iM_undos.toInt ≤ 16) (b_iM_images : 0 ≤ iM_images.toInt ∧ iM_images.toInt ≤ 3) (b_iM_scale : 1 ≤ iM_scale.toInt ∧ iM_scale.toInt ≤ 1296) (b_iM_breaths : 0 ≤ iM_breaths.toInt ∧ iM_breaths.toInt ≤ 399) (b_iM_cutMany : 0 ≤ iM_cutMany.toInt ∧ iM_cutMany.toInt ≤ 399) (r_R : ROk fM_r) (r_C : iM_hasCourt.toInt ≤ 0 ∨ (1 ≤ (fM_r 1).toInt ∧ 0 ≤ (fM_r 6).toInt ∧ (fM_r 6).toInt < (fM_r 1).toInt)) (r_st : RowOk fM_r fM_st) (r_told : RowOk fM_r fM_told) (r_wst : WorOk fM_st)  : Met l yX7_sure (Cond.code yX7_sure cX7_sure 1 (some .int) :: wG) ({ frames := 25, cells := 0, slots := 0, locals := 658 }) (va_Pc [.ref oM] (Pw dC dI sz [(oc7 oM iM_thrown rM_tape iM_taped iM_size iM_at iM_end iM_token iM_whole iM_nameSize iM_fault iM_place iM_trouble rM_letters iM_failed iM_hasCourt rM_r rM_fresh rM_told rM_read rM_st rM_undone rM_kept iM_undos iM_images rM_fresher iM_fresherSize iM_scale iM_night rM_heardRow rM_cutRow iM_breaths iM_cutMany iM_allBreaths rM_trial rM_words iM_fewestBreaths iM_orderMany iM_orderSum iM_leastOrder rM_often iM_setMany iM_someOf iM_allOf iM_allWeight iM_enoughWeight iM_worthSum iM_firstRest iM_leastDrawn), (arI rM_r kM_r 287 fM_r), (arI rM_told kM_told 90 fM_told), (arI rM_st kM_st 90 fM_st), (arI rM_trial kM_trial 90 fM_trial), (arI rM_words kM_words 10 fM_words)] [(kM_r, .int), (kM_told, .int), (kM_st, .int), (kM_trial, .int), (kM_words, .int)])) (va_Qi (fun (r : Int32) (_ : Nat) => True ∧ True) (fun (_ : Nat) (t : State) => ∃ (niM_thrown : Int32) (niM_trouble : Int32) (nfM_trial : Nat → Int32) (nfM_words : Nat → Int32), Bw dC dI (va_A [(oc7 oM iM_thrown rM_tape iM_taped iM_size iM_at iM_end iM_token iM_whole iM_nameSize iM_fault iM_place iM_trouble rM_letters iM_failed iM_hasCourt rM_r rM_fresh rM_told rM_read rM_st rM_undone rM_kept iM_undos iM_images rM_fresher iM_fresherSize iM_scale iM_night rM_heardRow rM_cutRow iM_breaths iM_cutMany iM_allBreaths rM_trial rM_words iM_fewestBreaths iM_orderMany iM_orderSum iM_leastOrder rM_often iM_setMany iM_someOf iM_allOf iM_allWeight iM_enoughWeight iM_worthSum iM_firstRest iM_leastDrawn), (arI rM_r kM_r 287 fM_r), (arI rM_told kM_told 90 fM_told), (arI rM_st kM_st 90 fM_st), (arI rM_trial kM_trial 90 fM_trial), (arI rM_words kM_words 10 fM_words)] sz) [(oc7 oM niM_thrown rM_tape iM_taped iM_size iM_at iM_end iM_token iM_whole iM_nameSize iM_fault iM_place niM_trouble rM_letters iM_failed iM_hasCourt rM_r rM_fresh rM_told rM_read rM_st rM_undone rM_kept iM_undos iM_images rM_fresher iM_fresherSize iM_scale iM_night rM_heardRow rM_cutRow iM_breaths iM_cutMany iM_allBreaths rM_trial rM_words iM_fewestBreaths iM_orderMany iM_orderSum iM_leastOrder rM_often iM_setMany iM_someOf iM_allOf iM_allWeight iM_enoughWeight iM_worthSum iM_firstRest iM_leastDrawn), (arI rM_r kM_r 287 fM_r), (arI rM_told kM_told 90 fM_told), (arI rM_st kM_st 90 fM_st), (arI rM_trial kM_trial 90 nfM_trial), (arI rM_words kM_words 10 nfM_words)] [(kM_r, .int), (kM_told, .int), (kM_st, .int), (kM_trial, .int), (kM_words, .int)] t) (va_A [(oc7 oM iM_thrown rM_tape iM_taped iM_size iM_at iM_end iM_token iM_whole iM_nameSize iM_fault iM_place iM_trouble rM_letters iM_failed iM_hasCourt rM_r rM_fresh rM_told rM_read rM_st rM_undone rM_kept iM_undos iM_images rM_fresher iM_fresherSize iM_scale iM_night rM_heardRow rM_cutRow iM_breaths iM_cutMany iM_allBreaths rM_trial rM_words iM_fewestBreaths iM_orderMany iM_orderSum iM_leastOrder rM_often iM_setMany iM_someOf iM_allOf iM_allWeight iM_enoughWeight iM_worthSum iM_firstRest iM_leastDrawn), (arI rM_r kM_r 287 fM_r), (arI rM_told kM_told 90 fM_told), (arI rM_st kM_st 90 fM_st), (arI rM_trial kM_trial 90 fM_trial), (arI rM_words kM_words 10 fM_words)] sz)) 0 0 (va_A [(oc7 oM iM_thrown rM_tape iM_taped iM_size iM_at iM_end iM_token iM_whole iM_nameSize iM_fault iM_place iM_trouble rM_letters iM_failed iM_hasCourt rM_r rM_fresh rM_told rM_read rM_st rM_undone rM_kept iM_undos iM_images rM_fresher iM_fresherSize iM_scale iM_night rM_heardRow rM_cutRow iM_breaths iM_cutMany iM_allBreaths rM_trial rM_words iM_fewestBreaths iM_orderMany iM_orderSum iM_leastOrder rM_often iM_setMany iM_someOf iM_allOf iM_allWeight iM_enoughWeight iM_worthSum iM_firstRest iM_leastDrawn), (arI rM_r kM_r 287 fM_r), (arI rM_told kM_told 90 fM_told), (arI rM_st kM_st 90 fM_st), (arI rM_trial kM_trial 90 fM_trial), (arI rM_words kM_words 10 fM_words)] sz) := by
  refine Met.ofW (cc := cX7_sure) (maxL := 1) (ret := (some .int)) pnX7 rfl ?_
  intro p e s m args below meth c s₁ B hml hv
  obtain ⟨rfl, hsz, hP, hK, hD0, hE⟩ := hv
  have hx := B.exec
  have hb := B.bytes
  have hr := B.returns
  have hts : ∀ w ∈ wG, w.before ([.ref oM] : List Value).toArray s = true := fun w h => atoms_spec (ws := Cond.code yX7_sure cX7_sure 1 (some .int) :: wG) B.pre w (List.mem_cons_of_mem _ h)
  have hown : s.vm.findClass RX7 = some m.cls := own_of B.named rfl
  have hlocks := B.notSynchronized
  subst hsz
  have hD := hD0.self (sz := s.heap.size)
  generalize hAe : va_A [(oc7 oM iM_thrown rM_tape iM_taped iM_size iM_at iM_end iM_token iM_whole iM_nameSize iM_fault iM_place iM_trouble rM_letters iM_failed iM_hasCourt rM_r rM_fresh rM_told rM_read rM_st rM_undone rM_kept iM_undos iM_images rM_fresher iM_fresherSize iM_scale iM_night rM_heardRow rM_cutRow iM_breaths iM_cutMany iM_allBreaths rM_trial rM_words iM_fewestBreaths iM_orderMany iM_orderSum iM_leastOrder rM_often iM_setMany iM_someOf iM_allOf iM_allWeight iM_enoughWeight iM_worthSum iM_firstRest iM_leastDrawn), (arI rM_r kM_r 287 fM_r), (arI rM_told kM_told 90 fM_told), (arI rM_st kM_st 90 fM_st), (arI rM_trial kM_trial 90 fM_trial), (arI rM_words kM_words 10 fM_words)] s.heap.size = A at hD hE ⊢
  have hA : ∀ q : Nat, s.heap.size ≤ q → A q := fun q h => by rw [← hAe]; exact Or.inr h
  have hS : va_S A s.heap s.heap [] := va_S.rf
  have hl := lv_entry ([.ref oM]) (n := 1) (Nat.le_of_ble_eq_true rfl)
  rw [lg_entry_eq]
  generalize (lg_sl ([.ref oM]) ++ List.replicate (1 - (lg_sl ([.ref oM])).length) Slot.unset).toArray = ls at hl ⊢
  have hl : lv_has ls 1 [(0, .ref oM)] := hl
  have s_slips := r_R.slips
  have s_nodes := r_R.nodes
  have s_uns := r_R.uns
  refine lv_aload_n hx hb dX7_sure_0 rfl (lv_at hl 0 rfl) ?_
  have hMs := ml_of hD [true, false, false, false, false, false] (wc := [(oc7 oM iM_thrown rM_tape iM_taped iM_size iM_at iM_end iM_token iM_whole iM_nameSize iM_fault iM_place iM_trouble rM_letters iM_failed iM_hasCourt rM_r rM_fresh rM_told rM_read rM_st rM_undone rM_kept iM_undos iM_images rM_fresher iM_fresherSize iM_scale iM_night rM_heardRow rM_cutRow iM_breaths iM_cutMany iM_allBreaths rM_trial rM_words iM_fewestBreaths iM_orderMany iM_orderSum iM_leastOrder rM_often iM_setMany iM_someOf iM_allOf iM_allWeight iM_enoughWeight iM_worthSum iM_firstRest iM_leastDrawn)]) rfl
  have hFc := va_freeM hD hS hA _ hMs
  refine va_callv (va_runV (As := []) (rest := []) ⟨hx, hb, hml, hown, hts⟩ (tX7_good l dC dI _ oM iM_thrown rM_tape iM_taped iM_size iM_at iM_end iM_token iM_whole iM_nameSize iM_fault iM_place iM_trouble rM_letters iM_failed iM_hasCourt rM_r rM_fresh rM_told rM_read rM_st rM_undone rM_kept iM_undos iM_images rM_fresher iM_fresherSize iM_scale iM_night rM_heardRow rM_cutRow iM_breaths iM_cutMany iM_allBreaths rM_trial rM_words iM_fewestBreaths iM_orderMany iM_orderSum iM_leastOrder rM_often iM_setMany iM_someOf iM_allOf iM_allWeight iM_enoughWeight iM_worthSum iM_firstRest iM_leastDrawn b_iM_taped b_iM_size b_iM_end b_iM_failed b_iM_hasCourt b_iM_undos b_iM_images b_iM_scale b_iM_breaths b_iM_cutMany) (cwV 0 hts (wd_V wd_388 wd_389 wd_390 wd_5 (wd_c wd_391)) rfl rfl rfl dv_yX7_good_0 ⟨Nat.le_of_ble_eq_true rfl, Nat.le_of_ble_eq_true rfl⟩) ⟨Pw.fb, recvX7 hK hP (q0 := 0) rfl, fun U hU hW => Pw.to (hP.ms _ hMs) (hD.ms _ hMs) (hK.ms [false, false, false, false, false] rfl) hE hS hFc hU hW⟩ rfl rfl hl.1 rfl (lv_room (Nat.le_of_ble_eq_true rfl)) dX7_sure_1 ⟨Nat.le_of_ble_eq_true rfl, Nat.le_of_ble_eq_true rfl⟩) hS (fun q _ h => hFc q h) hFc (fun u t H locs ht hvm hw hB hz1 hk1 hS => ?_)
  refine ex_2_3 hB (fun x_1998 x_1999 b_x_1998 b_x_1999 e_x_1998_0 hB => ?_)
  obtain ⟨hP, hD⟩ := Bw.goN (ws' := [(oc7 oM x_1998 rM_tape iM_taped iM_size iM_at iM_end iM_token iM_whole iM_nameSize iM_fault iM_place x_1999 rM_letters iM_failed iM_hasCourt rM_r rM_fresh rM_told rM_read rM_st rM_undone rM_kept iM_undos iM_images rM_fresher iM_fresherSize iM_scale iM_night rM_heardRow rM_cutRow iM_breaths iM_cutMany iM_allBreaths rM_trial rM_words iM_fewestBreaths iM_orderMany iM_orderSum iM_leastOrder rM_often iM_setMany iM_someOf iM_allOf iM_allWeight iM_enoughWeight iM_worthSum iM_firstRest iM_leastDrawn), (arI rM_r kM_r 287 fM_r), (arI rM_told kM_told 90 fM_told), (arI rM_st kM_st 90 fM_st), (arI rM_trial kM_trial 90 fM_trial), (arI rM_words kM_words 10 fM_words)]) hB rfl ht hP hD _ hMs hk1 hFc rfl
  clear hz1 hk1 hvm ht hB hMs
  refine lv_aload_n hx hb dX7_sure_4 rfl (lv_at hl 0 rfl) ?_
  rcases (id r_C) with r_C0 | r_C1
  · skip
    refine va_get (D := (dC, dI)) (ci := 7) (v := .int iM_hasCourt) (C := RX7) (T := TX7) (N := 48) hx hb hts inX7 hown hK hP 0 rfl rfl 14 (by decide) (hts _ wd_385) (fun _ h9 => h9) rfl dX7_sure_5 ?_
    refine lv_if_eq (tgt := 20) hx hb dX7_sure_8 (by decide) (fun c_2000 => ?_) (fun c_2000 => ?_)
    · skip
      have gc_2000 := ti_eq c_2000 rfl kc_0
      refine lv_aload_n hx hb dX7_sure_20 rfl (lv_at hl 0 rfl) ?_
      refine lv_iconst (v := 1) hx hb dX7_sure_21 (by decide) ?_
      have hMs := ml_of hD [true, false, false, false, false, false] (wc := [(oc7 oM x_1998 rM_tape iM_taped iM_size iM_at iM_end iM_token iM_whole iM_nameSize iM_fault iM_place x_1999 rM_letters iM_failed iM_hasCourt rM_r rM_fresh rM_told rM_read rM_st rM_undone rM_kept iM_undos iM_images rM_fresher iM_fresherSize iM_scale iM_night rM_heardRow rM_cutRow iM_breaths iM_cutMany iM_allBreaths rM_trial rM_words iM_fewestBreaths iM_orderMany iM_orderSum iM_leastOrder rM_often iM_setMany iM_someOf iM_allOf iM_allWeight iM_enoughWeight iM_worthSum iM_firstRest iM_leastDrawn)]) rfl
      have hFc := va_freeM hD hS hA _ hMs
      refine va_calli (va_runV (As := [.int 1]) (rest := []) ⟨hx, hb, hml, hown, hts⟩ (tX7_no l dC dI _ oM x_1998 rM_tape iM_taped iM_size iM_at iM_end iM_token iM_whole iM_nameSize iM_fault iM_place x_1999 rM_letters iM_failed iM_hasCourt rM_r rM_fresh rM_told rM_read rM_st rM_undone rM_kept iM_undos iM_images rM_fresher iM_fresherSize iM_scale iM_night rM_heardRow rM_cutRow iM_breaths iM_cutMany iM_allBreaths rM_trial rM_words iM_fewestBreaths iM_orderMany iM_orderSum iM_leastOrder rM_often iM_setMany iM_someOf iM_allOf iM_allWeight iM_enoughWeight iM_worthSum iM_firstRest iM_leastDrawn 1 b_iM_taped b_iM_size b_iM_end b_iM_failed b_iM_hasCourt b_iM_undos b_iM_images b_iM_scale b_iM_breaths b_iM_cutMany) (cwV 1 hts (wd_V wd_396 wd_397 wd_398 wd_5 (wd_c wd_399)) rfl rfl rfl dv_yX7_no_1 ⟨Nat.le_of_ble_eq_true rfl, Nat.le_of_ble_eq_true rfl⟩) ⟨Pw.fb, recvX7 hK hP (q0 := 0) rfl, fun U hU hW => Pw.to (hP.ms _ hMs) (hD.ms _ hMs) (hK.ms [false, false, false, false, false] rfl) hE hS hFc hU hW⟩ rfl rfl hl.1 rfl (lv_room (Nat.le_of_ble_eq_true rfl)) dX7_sure_22 ⟨Nat.le_of_ble_eq_true rfl, Nat.le_of_ble_eq_true rfl⟩) hS (fun q _ h => hFc q h) hFc (fun r u t H locs ht hvm hw hB hz1 hk1 hS => ?_)
      have hru9 := hw.2
      have hw := hw.1
      refine ex_1_1 hB (fun x_2001 e_x_2001_0 hB => ?_)
      obtain ⟨hP, hD⟩ := Bw.goN (ws' := [(oc7 oM x_1998 rM_tape iM_taped iM_size iM_at iM_end iM_token iM_whole iM_nameSize iM_fault iM_place x_2001 rM_letters iM_failed iM_hasCourt rM_r rM_fresh rM_told rM_read rM_st rM_undone rM_kept iM_undos iM_images rM_fresher iM_fresherSize iM_scale iM_night rM_heardRow rM_cutRow iM_breaths iM_cutMany iM_allBreaths rM_trial rM_words iM_fewestBreaths iM_orderMany iM_orderSum iM_leastOrder rM_often iM_setMany iM_someOf iM_allOf iM_allWeight iM_enoughWeight iM_worthSum iM_firstRest iM_leastDrawn), (arI rM_r kM_r 287 fM_r), (arI rM_told kM_told 90 fM_told), (arI rM_st kM_st 90 fM_st), (arI rM_trial kM_trial 90 fM_trial), (arI rM_words kM_words 10 fM_words)]) hB rfl ht hP hD _ hMs hk1 hFc rfl
      clear hz1 hk1 hvm ht hB hMs
      obtain ⟨x_2002, rfl⟩ : ∃ z, z = r := ⟨_, rfl⟩
      exact wq_i hx hb hr 0 ⟨trivial, trivial⟩ (fun t ht hW => ⟨x_1998, x_2001, fM_trial, fM_words, Bw.to hP hD hK ht hW⟩) hS dX7_sure_25 hlocks
    · skip
      have gc_2000 := ti_ne c_2000 rfl kc_0
      exact (om_c9ba8b89 gc_2000 r_C0 b_iM_hasCourt.1).elim
  · skip
    refine va_get (D := (dC, dI)) (ci := 7) (v := .int iM_hasCourt) (C := RX7) (T := TX7) (N := 48) hx hb hts inX7 hown hK hP 0 rfl rfl 14 (by decide) (hts _ wd_385) (fun _ h9 => h9) rfl dX7_sure_5 ?_
    refine lv_if_eq (tgt := 20) hx hb dX7_sure_8 (by decide) (fun c_2003 => ?_) (fun c_2003 => ?_)
    · skip
      have gc_2003 := ti_eq c_2003 rfl kc_0
      refine lv_aload_n hx hb dX7_sure_20 rfl (lv_at hl 0 rfl) ?_
      refine lv_iconst (v := 1) hx hb dX7_sure_21 (by decide) ?_
      have hMs := ml_of hD [true, false, false, false, false, false] (wc := [(oc7 oM x_1998 rM_tape iM_taped iM_size iM_at iM_end iM_token iM_whole iM_nameSize iM_fault iM_place x_1999 rM_letters iM_failed iM_hasCourt rM_r rM_fresh rM_told rM_read rM_st rM_undone rM_kept iM_undos iM_images rM_fresher iM_fresherSize iM_scale iM_night rM_heardRow rM_cutRow iM_breaths iM_cutMany iM_allBreaths rM_trial rM_words iM_fewestBreaths iM_orderMany iM_orderSum iM_leastOrder rM_often iM_setMany iM_someOf iM_allOf iM_allWeight iM_enoughWeight iM_worthSum iM_firstRest iM_leastDrawn)]) rfl
      have hFc := va_freeM hD hS hA _ hMs
      refine va_calli (va_runV (As := [.int 1]) (rest := []) ⟨hx, hb, hml, hown, hts⟩ (tX7_no l dC dI _ oM x_1998 rM_tape iM_taped iM_size iM_at iM_end iM_token iM_whole iM_nameSize iM_fault iM_place x_1999 rM_letters iM_failed iM_hasCourt rM_r rM_fresh rM_told rM_read rM_st rM_undone rM_kept iM_undos iM_images rM_fresher iM_fresherSize iM_scale iM_night rM_heardRow rM_cutRow iM_breaths iM_cutMany iM_allBreaths rM_trial rM_words iM_fewestBreaths iM_orderMany iM_orderSum iM_leastOrder rM_often iM_setMany iM_someOf iM_allOf iM_allWeight iM_enoughWeight iM_worthSum iM_firstRest iM_leastDrawn 1 b_iM_taped b_iM_size b_iM_end b_iM_failed b_iM_hasCourt b_iM_undos b_iM_images b_iM_scale b_iM_breaths b_iM_cutMany) (cwV 1 hts (wd_V wd_396 wd_397 wd_398 wd_5 (wd_c wd_399)) rfl rfl rfl dv_yX7_no_1 ⟨Nat.le_of_ble_eq_true rfl, Nat.le_of_ble_eq_true rfl⟩) ⟨Pw.fb, recvX7 hK hP (q0 := 0) rfl, fun U hU hW => Pw.to (hP.ms _ hMs) (hD.ms _ hMs) (hK.ms [false, false, false, false, false] rfl) hE hS hFc hU hW⟩ rfl rfl hl.1 rfl (lv_room (Nat.le_of_ble_eq_true rfl)) dX7_sure_22 ⟨Nat.le_of_ble_eq_true rfl, Nat.le_of_ble_eq_true rfl⟩) hS (fun q _ h => hFc q h) hFc (fun r u t H locs ht hvm hw hB hz1 hk1 hS => ?_)
      have hru9 := hw.2
      have hw := hw.1
      refine ex_1_1 hB (fun x_2004 e_x_2004_0 hB => ?_)
      obtain ⟨hP, hD⟩ := Bw.goN (ws' := [(oc7 oM x_1998 rM_tape iM_taped iM_size iM_at iM_end iM_token iM_whole iM_nameSize iM_fault iM_place x_2004 rM_letters iM_failed iM_hasCourt rM_r rM_fresh rM_told rM_read rM_st rM_undone rM_kept iM_undos iM_images rM_fresher iM_fresherSize iM_scale iM_night rM_heardRow rM_cutRow iM_breaths iM_cutMany iM_allBreaths rM_trial rM_words iM_fewestBreaths iM_orderMany iM_orderSum iM_leastOrder rM_often iM_setMany iM_someOf iM_allOf iM_allWeight iM_enoughWeight iM_worthSum iM_firstRest iM_leastDrawn), (arI rM_r kM_r 287 fM_r), (arI rM_told kM_told 90 fM_told), (arI rM_st kM_st 90 fM_st), (arI rM_trial kM_trial 90 fM_trial), (arI rM_words kM_words 10 fM_words)]) hB rfl ht hP hD _ hMs hk1 hFc rfl
      clear hz1 hk1 hvm ht hB hMs
      obtain ⟨x_2005, rfl⟩ : ∃ z, z = r := ⟨_, rfl⟩
      exact wq_i hx hb hr 0 ⟨trivial, trivial⟩ (fun t ht hW => ⟨x_1998, x_2004, fM_trial, fM_words, Bw.to hP hD hK ht hW⟩) hS dX7_sure_25 hlocks
    · skip
      have gc_2003 := ti_ne c_2003 rfl kc_0
      refine lv_aload_n hx hb dX7_sure_11 rfl (lv_at hl 0 rfl) ?_
      refine lv_iconst (v := 2) hx hb dX7_sure_12 (by decide) ?_
      refine lv_iconst (v := 0) hx hb dX7_sure_13 (by decide) ?_
      have hFc := va_freeI hD hS hA
      refine va_calli (va_runV (As := [.int 2, .int 0]) (rest := []) ⟨hx, hb, hml, hown, hts⟩ (tX7_fewestFor l dC dI _ oM x_1998 rM_tape iM_taped iM_size iM_at iM_end iM_token iM_whole iM_nameSize iM_fault iM_place x_1999 rM_letters iM_failed iM_hasCourt rM_r fM_r kM_r rM_fresh rM_told fM_told kM_told rM_read rM_st fM_st kM_st rM_undone rM_kept iM_undos iM_images rM_fresher iM_fresherSize iM_scale iM_night rM_heardRow rM_cutRow iM_breaths iM_cutMany iM_allBreaths rM_trial fM_trial kM_trial rM_words fM_words kM_words iM_fewestBreaths iM_orderMany iM_orderSum iM_leastOrder rM_often iM_setMany iM_someOf iM_allOf iM_allWeight iM_enoughWeight iM_worthSum iM_firstRest iM_leastDrawn 2 0 b_iM_taped b_iM_size b_iM_end b_iM_failed b_iM_hasCourt b_iM_undos b_iM_images b_iM_scale b_iM_breaths b_iM_cutMany (by assumption) (by assumption) (by assumption) (by assumption) (by assumption) ⟨r_C1.2.1, r_C1.2.2⟩) (cwV 2 hts (wd_V wd_961 wd_962 wd_963 wd_5 (wd_c wd_964)) rfl rfl rfl dv_yX7_fewestFor_2 ⟨Nat.le_of_ble_eq_true rfl, Nat.le_of_ble_eq_true rfl⟩) ⟨Pw.fb, recvX7 hK hP (q0 := 0) rfl, fun U hU hW => Pw.to hP hD hK hE hS hFc hU hW⟩ rfl rfl hl.1 rfl (lv_room (Nat.le_of_ble_eq_true rfl)) dX7_sure_14 ⟨Nat.le_of_ble_eq_true rfl, Nat.le_of_ble_eq_true rfl⟩) hS (fun q _ h => hFc q h) hFc (fun r u t H locs ht hvm hw hB hz1 hk1 hS => ?_)
      refine ex_2_0 hB (fun f_2006 f_2007 hB => ?_)
      obtain ⟨hP, hD⟩ := Bw.goA (ws' := [(oc7 oM x_1998 rM_tape iM_taped iM_size iM_at iM_end iM_token iM_whole iM_nameSize iM_fault iM_place x_1999 rM_letters iM_failed iM_hasCourt rM_r rM_fresh rM_told rM_read rM_st rM_undone rM_kept iM_undos iM_images rM_fresher iM_fresherSize iM_scale iM_night rM_heardRow rM_cutRow iM_breaths iM_cutMany iM_allBreaths rM_trial rM_words iM_fewestBreaths iM_orderMany iM_orderSum iM_leastOrder rM_often iM_setMany iM_someOf iM_allOf iM_allWeight iM_enoughWeight iM_worthSum iM_firstRest iM_leastDrawn), (arI rM_r kM_r 287 fM_r), (arI rM_told kM_told 90 fM_told), (arI rM_st kM_st 90 fM_st), (arI rM_trial kM_trial 90 f_2006), (arI rM_words kM_words 10 f_2007)]) hB rfl ht hFc rfl
      clear hz1 hk1 hvm ht hB
      obtain ⟨x_2008, rfl⟩ : ∃ z, z = r := ⟨_, rfl⟩
      refine lv_goto (tgt := 25) hx hb dX7_sure_17 (by decide) ?_
      exact wq_i hx hb hr 0 ⟨trivial, trivial⟩ (fun t ht hW => ⟨x_1998, x_1999, f_2006, f_2007, Bw.to hP hD hK ht hW⟩) hS dX7_sure_25 hlocks
