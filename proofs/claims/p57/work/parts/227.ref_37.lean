set_option maxHeartbeats 4000000 in
set_option maxRecDepth 100000 in
theorem tX7_frontOf (l : Launch) (dC : Nat → ClassId) (dI : Nat → Nat → Nat) (sz : Nat) (oM : Nat) (iM_thrown : Int32) (rM_tape : Nat) (iM_taped : Int32) (iM_size : Int32) (iM_at : Int32) (iM_end : Int32) (iM_token : Int32) (iM_whole : Int32) (iM_nameSize : Int32) (iM_fault : Int32) (iM_place : Int32) (iM_trouble : Int32) (rM_letters : Nat) (iM_failed : Int32) (iM_hasCourt : Int32) (rM_r : Nat) (fM_r : Nat → Int32) (kM_r : ClassId) (rM_fresh : Nat) (rM_told : Nat) (rM_read : Nat) (rM_st : Nat) (rM_undone : Nat) (rM_kept : Nat) (iM_undos : Int32) (iM_images : Int32) (rM_fresher : Nat) (iM_fresherSize : Int32) (iM_scale : Int32) (iM_night : Int32) (rM_heardRow : Nat) (rM_cutRow : Nat) (iM_breaths : Int32) (iM_cutMany : Int32) (iM_allBreaths : Int32) (rM_trial : Nat) (rM_words : Nat) (iM_fewestBreaths : Int32) (iM_orderMany : Int32) (iM_orderSum : Int32) (iM_leastOrder : Int32) (rM_often : Nat) (iM_setMany : Int32) (iM_someOf : Int32) (iM_allOf : Int32) (iM_allWeight : Int64) (iM_enoughWeight : Int64) (iM_worthSum : Int64) (iM_firstRest : Int32) (iM_leastDrawn : Int32) (rQ : Nat) (fQ : Nat → Int32) (kQ : ClassId) (p0 : Int32) (p1 : Int32) (b_iM_taped : 0 ≤ iM_taped.toInt ∧ iM_taped.toInt ≤ 900) (b_iM_size : 0 ≤ iM_size.toInt ∧ iM_size.toInt ≤ 900) (b_iM_end : 0 ≤ iM_end.toInt ∧ iM_end.toInt ≤ 900) (b_iM_failed : 0 ≤ iM_failed.toInt ∧ iM_failed.toInt ≤ 1) (b_iM_hasCourt : 0 ≤ iM_hasCourt.toInt ∧ iM_hasCourt.toInt ≤ 1) (b_iM_undos : 0 ≤ iM_undos.toInt ∧ iM_undos.toInt ≤ 16) (b_iM_images : 0 ≤ iM_images.toInt ∧ iM_images.toInt ≤ 3) (b_iM_scale : 1 ≤ iM_scale.toInt ∧ iM_scale.toInt ≤ 1296) (b_iM_breaths : 0 ≤ iM_breaths.toInt ∧ iM_breaths.toInt ≤ 399) (b_iM_cutMany : 0 ≤ iM_cutMany.toInt ∧ iM_cutMany.toInt ≤ 399) (r_R : ROk fM_r) (r_C : iM_hasCourt.toInt ≤ 0 ∨ (1 ≤ (fM_r 1).toInt ∧ 0 ≤ (fM_r 6).toInt ∧ (fM_r 6).toInt < (fM_r 1).toInt)) (r_Q : RowOk fM_r fQ) (hk0 : 0 ≤ p0.toInt ∧ p0.toInt < (fM_r 1).toInt) (hi9 : 0 ≤ p1.toInt ∧ p1.toInt < (fM_r (27 + p0.toNatClampNeg)).toInt) : Met l yX7_frontOf (Cond.code yX7_frontOf cX7_frontOf 6 none :: wG) ({ frames := 0, cells := 0, slots := 0, locals := 0 }) (va_Pc [.ref oM, .ref rQ, .int p0, .int p1] (Pw dC dI sz [(oc7 oM iM_thrown rM_tape iM_taped iM_size iM_at iM_end iM_token iM_whole iM_nameSize iM_fault iM_place iM_trouble rM_letters iM_failed iM_hasCourt rM_r rM_fresh rM_told rM_read rM_st rM_undone rM_kept iM_undos iM_images rM_fresher iM_fresherSize iM_scale iM_night rM_heardRow rM_cutRow iM_breaths iM_cutMany iM_allBreaths rM_trial rM_words iM_fewestBreaths iM_orderMany iM_orderSum iM_leastOrder rM_often iM_setMany iM_someOf iM_allOf iM_allWeight iM_enoughWeight iM_worthSum iM_firstRest iM_leastDrawn), (arI rM_r kM_r 287 fM_r), (arI rQ kQ 90 fQ)] [(kM_r, .int), (kQ, .int)])) (va_Qv (fun (_ : Nat) => True) (fun (_ : Nat) (t : State) => ∃ (nfQ : Nat → Int32), (RowOk fM_r nfQ) ∧ (∀ j : Nat, 72 ≤ j → nfQ j = fQ j) ∧ (PX7_frontOf fQ p0 p1 = nfQ) ∧ Bw dC dI (va_A [(oc7 oM iM_thrown rM_tape iM_taped iM_size iM_at iM_end iM_token iM_whole iM_nameSize iM_fault iM_place iM_trouble rM_letters iM_failed iM_hasCourt rM_r rM_fresh rM_told rM_read rM_st rM_undone rM_kept iM_undos iM_images rM_fresher iM_fresherSize iM_scale iM_night rM_heardRow rM_cutRow iM_breaths iM_cutMany iM_allBreaths rM_trial rM_words iM_fewestBreaths iM_orderMany iM_orderSum iM_leastOrder rM_often iM_setMany iM_someOf iM_allOf iM_allWeight iM_enoughWeight iM_worthSum iM_firstRest iM_leastDrawn), (arI rM_r kM_r 287 fM_r), (arI rQ kQ 90 fQ)] sz) [(oc7 oM iM_thrown rM_tape iM_taped iM_size iM_at iM_end iM_token iM_whole iM_nameSize iM_fault iM_place iM_trouble rM_letters iM_failed iM_hasCourt rM_r rM_fresh rM_told rM_read rM_st rM_undone rM_kept iM_undos iM_images rM_fresher iM_fresherSize iM_scale iM_night rM_heardRow rM_cutRow iM_breaths iM_cutMany iM_allBreaths rM_trial rM_words iM_fewestBreaths iM_orderMany iM_orderSum iM_leastOrder rM_often iM_setMany iM_someOf iM_allOf iM_allWeight iM_enoughWeight iM_worthSum iM_firstRest iM_leastDrawn), (arI rM_r kM_r 287 fM_r), (arI rQ kQ 90 nfQ)] [(kM_r, .int), (kQ, .int)] t) (va_A [(oc7 oM iM_thrown rM_tape iM_taped iM_size iM_at iM_end iM_token iM_whole iM_nameSize iM_fault iM_place iM_trouble rM_letters iM_failed iM_hasCourt rM_r rM_fresh rM_told rM_read rM_st rM_undone rM_kept iM_undos iM_images rM_fresher iM_fresherSize iM_scale iM_night rM_heardRow rM_cutRow iM_breaths iM_cutMany iM_allBreaths rM_trial rM_words iM_fewestBreaths iM_orderMany iM_orderSum iM_leastOrder rM_often iM_setMany iM_someOf iM_allOf iM_allWeight iM_enoughWeight iM_worthSum iM_firstRest iM_leastDrawn), (arI rM_r kM_r 287 fM_r), (arI rQ kQ 90 fQ)] sz)) 0 0 (va_A [(oc7 oM iM_thrown rM_tape iM_taped iM_size iM_at iM_end iM_token iM_whole iM_nameSize iM_fault iM_place iM_trouble rM_letters iM_failed iM_hasCourt rM_r rM_fresh rM_told rM_read rM_st rM_undone rM_kept iM_undos iM_images rM_fresher iM_fresherSize iM_scale iM_night rM_heardRow rM_cutRow iM_breaths iM_cutMany iM_allBreaths rM_trial rM_words iM_fewestBreaths iM_orderMany iM_orderSum iM_leastOrder rM_often iM_setMany iM_someOf iM_allOf iM_allWeight iM_enoughWeight iM_worthSum iM_firstRest iM_leastDrawn), (arI rM_r kM_r 287 fM_r), (arI rQ kQ 90 fQ)] sz) := by
  refine Met.ofW (cc := cX7_frontOf) (maxL := 6) (ret := none) (by decide) rfl ?_
  intro p e s m args below meth c s₁ B hml hv
  obtain ⟨rfl, hsz, hP, hK, hD0, hE⟩ := hv
  have hx := B.exec
  have hb := B.bytes
  have hr := B.returns
  have hts : ∀ w ∈ wG, w.before ([.ref oM, .ref rQ, .int p0, .int p1] : List Value).toArray s = true := fun w h => atoms_spec (ws := Cond.code yX7_frontOf cX7_frontOf 6 none :: wG) B.pre w (List.mem_cons_of_mem _ h)
  have hown : s.vm.findClass RX7 = some m.cls := findClass_of_methodNamed B.named
  have hlocks := B.notSynchronized
  subst hsz
  have hD := hD0.self (sz := s.heap.size)
  generalize hAe : va_A [(oc7 oM iM_thrown rM_tape iM_taped iM_size iM_at iM_end iM_token iM_whole iM_nameSize iM_fault iM_place iM_trouble rM_letters iM_failed iM_hasCourt rM_r rM_fresh rM_told rM_read rM_st rM_undone rM_kept iM_undos iM_images rM_fresher iM_fresherSize iM_scale iM_night rM_heardRow rM_cutRow iM_breaths iM_cutMany iM_allBreaths rM_trial rM_words iM_fewestBreaths iM_orderMany iM_orderSum iM_leastOrder rM_often iM_setMany iM_someOf iM_allOf iM_allWeight iM_enoughWeight iM_worthSum iM_firstRest iM_leastDrawn), (arI rM_r kM_r 287 fM_r), (arI rQ kQ 90 fQ)] s.heap.size = A at hD hE ⊢
  have hA : ∀ q : Nat, s.heap.size ≤ q → A q := fun q h => by rw [← hAe]; exact Or.inr h
  have hS : va_S A s.heap s.heap [] := va_S.rf
  have hl := lv_entry ([.ref oM, .ref rQ, .int p0, .int p1]) (n := 6) (Nat.le_of_ble_eq_true rfl)
  rw [lg_entry_eq]
  generalize (lg_sl ([.ref oM, .ref rQ, .int p0, .int p1]) ++ List.replicate (6 - (lg_sl ([.ref oM, .ref rQ, .int p0, .int p1])).length) Slot.unset).toArray = ls at hl ⊢
  have hl : lv_has ls 6 [(0, .ref oM), (1, .ref rQ), (2, .int p0), (3, .int p1)] := hl
  have hG := PX7_frontOf_eq fQ p0 p1
  have s_slips := r_R.slips
  have s_nodes := r_R.nodes
  have s_uns := r_R.uns
  have q_p0 := ti_cl (x := p0) rfl (by omega)
  have mn_p0 := r_R.many (27 + p0.toNatClampNeg) (by omega) (by omega)
  have kn_p0 := r_R.kind (9 + p0.toNatClampNeg) (by omega) (by omega)
  have in_p0 := r_R.inner p0.toNatClampNeg (by omega)
  refine lv_aload_n hx hb dX7_frontOf_0 rfl (lv_at hl 1 rfl) ?_
  refine lv_iconst (v := 4) hx hb dX7_frontOf_1 (by decide) ?_
  refine lv_iload_n hx hb dX7_frontOf_2 rfl (lv_at hl 2 rfl) ?_
  refine lv_imul hx hb dX7_frontOf_3 ?_
  refine lv_topi (fun x_1631 ex_1631 => ?_)
  have hG := hG.trans (lt_eq ex_1631)
  have vx_1631 : x_1631.toInt = 4 * p0.toInt := by have q := ti_mul ex_1631 kc_4 rfl (by omega) (by omega); omega
  refine lv_iload_n hx hb dX7_frontOf_4 rfl (lv_at hl 3 rfl) ?_
  refine lv_iadd hx hb dX7_frontOf_5 ?_
  refine lv_topi (fun x_1632 ex_1632 => ?_)
  have hG := hG.trans (lt_eq ex_1632)
  have vx_1632 : x_1632.toInt = 4 * p0.toInt + p1.toInt := by have q := ti_add ex_1632 vx_1631 rfl (by omega) (by omega); omega
  refine va_iald hx hb hK hP 2 1 rfl rfl (ti_in vx_1632 (by omega) (by omega)) dX7_frontOf_6 ?_
  refine lv_topi (fun x_1633 ex_1633 => ?_)
  have hG := hG.trans (lt_eq ex_1633)
  have kx_1633 : (fQ x_1632.toNatClampNeg).toInt = x_1633.toInt := by rw [ex_1633]
  have cx_1633 : (fQ (4 * p0.toNatClampNeg + p1.toNatClampNeg)).toInt = x_1633.toInt := by rw [show 4 * p0.toNatClampNeg + p1.toNatClampNeg = x_1632.toNatClampNeg from by have q9 := ti_cl (x := x_1632) vx_1632 (by omega); have q_p0 := ti_cl (x := p0) rfl (by omega); have q_p1 := ti_cl (x := p1) rfl (by omega); omega]; exact kx_1633
  have wx_1633 := r_Q.lt p0.toNatClampNeg (p1.toNatClampNeg) (by have q_1 := ti_cl (x := p0) rfl (by omega); have q_2 := ti_cl (x := p1) rfl (by omega); omega) (by have q_1 := ti_cl (x := p0) rfl (by omega); have q_2 := ti_cl (x := p1) rfl (by omega); omega)
  have wx_1633 : 0 ≤ x_1633.toInt ∧ x_1633.toInt < p0.toInt := by have q_1 := ti_cl (x := p0) rfl (by omega); have q_2 := ti_cl (x := p1) rfl (by omega); have q_3 := cx_1633; rw [show 4 * p0.toNatClampNeg + (p1.toNatClampNeg) = 4 * p0.toNatClampNeg + p1.toNatClampNeg from by omega] at wx_1633; omega
  refine lv_istore (lv' := [(4, .int x_1633), (0, .ref oM), (1, .ref rQ), (2, .int p0), (3, .int p1)]) hx hb dX7_frontOf_7 hl (by decide) rfl (fun ls hl => ?_)
  refine lv_iload_n hx hb dX7_frontOf_9 rfl (lv_at hl 4 rfl) ?_
  refine lv_istore (lv' := [(5, .int p1), (4, .int x_1633), (0, .ref oM), (1, .ref rQ), (2, .int p0), (3, .int p1)]) hx hb dX7_frontOf_10 hl (by decide) rfl (fun ls hl => ?_)
  have hl := lv_sub hl (l' := [(5, .int p1), (4, .int x_1633), (0, .ref oM), (1, .ref rQ), (2, .int p0), (3, .int p1)]) [0, 1, 2, 3, 4, 5] rfl
  have key_n_1636 : ∀ (n_1636 : Nat) (z_1634 : Int32) (f_1635 : Nat → Int32) (H : Heap) (locs : List Loc) (ls : Array Slot), (0 ≤ z_1634.toInt ∧ z_1634.toInt ≤ p1.toInt) → (FrontI fQ (4 * p0.toNatClampNeg) p1.toNatClampNeg z_1634.toNatClampNeg f_1635) → z_1634.toInt.toNat < n_1636 → (PX7_frontOf fQ p0 p1 = HX7_frontOf_0 p0 x_1633 n_1636 z_1634 f_1635) → va_P (dC, dI) vwCl [(oc7 oM iM_thrown rM_tape iM_taped iM_size iM_at iM_end iM_token iM_whole iM_nameSize iM_fault iM_place iM_trouble rM_letters iM_failed iM_hasCourt rM_r rM_fresh rM_told rM_read rM_st rM_undone rM_kept iM_undos iM_images rM_fresher iM_fresherSize iM_scale iM_night rM_heardRow rM_cutRow iM_breaths iM_cutMany iM_allBreaths rM_trial rM_words iM_fewestBreaths iM_orderMany iM_orderSum iM_leastOrder rM_often iM_setMany iM_someOf iM_allOf iM_allWeight iM_enoughWeight iM_worthSum iM_firstRest iM_leastDrawn), (arI rM_r kM_r 287 fM_r), (arI rQ kQ 90 f_1635)] H → va_D A [(oc7 oM iM_thrown rM_tape iM_taped iM_size iM_at iM_end iM_token iM_whole iM_nameSize iM_fault iM_place iM_trouble rM_letters iM_failed iM_hasCourt rM_r rM_fresh rM_told rM_read rM_st rM_undone rM_kept iM_undos iM_images rM_fresher iM_fresherSize iM_scale iM_night rM_heardRow rM_cutRow iM_breaths iM_cutMany iM_allBreaths rM_trial rM_words iM_fewestBreaths iM_orderMany iM_orderSum iM_leastOrder rM_often iM_setMany iM_someOf iM_allOf iM_allWeight iM_enoughWeight iM_worthSum iM_firstRest iM_leastDrawn), (arI rM_r kM_r 287 fM_r), (arI rQ kQ 90 f_1635)] → va_S A s.heap H locs → lv_has ls 6 [(5, .int z_1634), (4, .int x_1633), (0, .ref oM), (1, .ref rQ), (2, .int p0), (3, .int p1)] → W p l e (headSpec (Cond.code yX7_frontOf cX7_frontOf 6 none :: wG) ({ frames := 0, cells := 0, slots := 0, locals := 0 })).room s m ([.ref oM, .ref rQ, .int p0, .int p1] : List Value).toArray below meth c H locs 0 0 (MQ below (va_Qv (fun (_ : Nat) => True) (fun (_ : Nat) (t : State) => ∃ (nfQ : Nat → Int32), (RowOk fM_r nfQ) ∧ (∀ j : Nat, 72 ≤ j → nfQ j = fQ j) ∧ (PX7_frontOf fQ p0 p1 = nfQ) ∧ Bw dC dI A [(oc7 oM iM_thrown rM_tape iM_taped iM_size iM_at iM_end iM_token iM_whole iM_nameSize iM_fault iM_place iM_trouble rM_letters iM_failed iM_hasCourt rM_r rM_fresh rM_told rM_read rM_st rM_undone rM_kept iM_undos iM_images rM_fresher iM_fresherSize iM_scale iM_night rM_heardRow rM_cutRow iM_breaths iM_cutMany iM_allBreaths rM_trial rM_words iM_fewestBreaths iM_orderMany iM_orderSum iM_leastOrder rM_often iM_setMany iM_someOf iM_allOf iM_allWeight iM_enoughWeight iM_worthSum iM_firstRest iM_leastDrawn), (arI rM_r kM_r 287 fM_r), (arI rQ kQ 90 nfQ)] [(kM_r, .int), (kQ, .int)] t) A) ([.ref oM, .ref rQ, .int p0, .int p1] : List Value).toArray s 0 0 A) (F0 m 12 ls []) := by
    intro n_1636
    induction n_1636 with
    | zero => intro z_1634 f_1635 H locs ls hi0_n_1636 hi1_n_1636 hm; exact absurd hm (by omega)
    | succ n_1636 ih_n_1636 =>
      intro z_1634 f_1635 H locs ls hi0_n_1636 hi1_n_1636 hm hG hP hD hS hl
      have hG := hG.trans (HX7_frontOf_0_eq _ _ _ _ _)
      refine lv_iload hx hb dX7_frontOf_12 (lv_at hl 0 rfl) ?_
      refine lv_if_le (tgt := 41) hx hb dX7_frontOf_14 (by decide) (fun c_1637 => ?_) (fun c_1637 => ?_)
      · skip
        have hG := hG.trans (if_pos c_1637)
        have gc_1637 := ti_le c_1637 rfl kc_0
        refine lv_aload_n hx hb dX7_frontOf_41 rfl (lv_at hl 3 rfl) ?_
        refine lv_iconst (v := 4) hx hb dX7_frontOf_42 (by decide) ?_
        refine lv_iload_n hx hb dX7_frontOf_43 rfl (lv_at hl 4 rfl) ?_
        refine lv_imul hx hb dX7_frontOf_44 ?_
        refine lv_topi (fun x_1638 ex_1638 => ?_)
        have hG := hG.trans (lt_eq ex_1638)
        have vx_1638 : x_1638.toInt = 4 * p0.toInt := by have q := ti_mul ex_1638 kc_4 rfl (by omega) (by omega); omega
        refine lv_iload hx hb dX7_frontOf_45 (lv_at hl 1 rfl) ?_
        refine va_iast hx hb hK hP hD hS 2 1 rfl rfl (ti_in vx_1638 (by omega) (by omega)) dX7_frontOf_47 (fun H locs hP hD hS => ?_)
        obtain ⟨f_1639, ef_1639⟩ : ∃ g : Nat → Int32, g = upd f_1635 x_1638.toNatClampNeg x_1633 := ⟨_, rfl⟩
        rw [← ef_1639] at hP hD
        have hG := hG.trans (lt_eq ef_1639)
        obtain ⟨hP, hD⟩ := wl2 (ws' := [(oc7 oM iM_thrown rM_tape iM_taped iM_size iM_at iM_end iM_token iM_whole iM_nameSize iM_fault iM_place iM_trouble rM_letters iM_failed iM_hasCourt rM_r rM_fresh rM_told rM_read rM_st rM_undone rM_kept iM_undos iM_images rM_fresher iM_fresherSize iM_scale iM_night rM_heardRow rM_cutRow iM_breaths iM_cutMany iM_allBreaths rM_trial rM_words iM_fewestBreaths iM_orderMany iM_orderSum iM_leastOrder rM_often iM_setMany iM_someOf iM_allOf iM_allWeight iM_enoughWeight iM_worthSum iM_firstRest iM_leastDrawn), (arI rM_r kM_r 287 fM_r), (arI rQ kQ 90 f_1639)]) hP hD rfl
        have fr0 : FrontI fQ (4 * p0.toNatClampNeg) p1.toNatClampNeg 0 f_1635 := by rw [show (0 : Nat) = z_1634.toNatClampNeg from by have q1 := ti_cl (x := z_1634) rfl (by omega); omega]; exact hi1_n_1636
        have hq4 : x_1638.toNatClampNeg = 4 * p0.toNatClampNeg := by have q1 := ti_cl (x := x_1638) vx_1638 (by omega); have q2 := ti_cl (x := p0) rfl (by omega); omega
        have rf9 : RowOk fM_r f_1639 := RowOk.front r_R r_Q (by have q2 := ti_cl (x := p0) rfl (by omega); omega) (by have q2 := ti_cl (x := p1) rfl (by omega); omega) fr0 ef_1639 hq4 (by have q := cx_1633; omega)
        have rk9 : ∀ j : Nat, 72 ≤ j → f_1639 j = fQ j := front_keeps fr0 ef_1639 hq4 (by have q2 := ti_cl (x := p0) rfl (by omega); have q4 := ti_cl (x := p1) rfl (by omega); omega)
        exact W.vret hx hb hr (fun t ht hW => ⟨⟨0, rfl, trivial, ⟨f_1639, (by first | omega | decide | assumption), (by first | omega | decide | assumption), hG, Bw.to (hP.sub [0, 1, 2] rfl) (hD.sub [0, 1, 2] (by decide) rfl) (hK.sub [0, 1] rfl) ht hW⟩⟩, hS.F ht⟩) hS.2.2 dX7_frontOf_48
      · skip
        have hG := hG.trans (if_neg c_1637)
        have gc_1637 := ti_nle c_1637 rfl kc_0
        refine lv_aload_n hx hb dX7_frontOf_17 rfl (lv_at hl 3 rfl) ?_
        refine lv_iconst (v := 4) hx hb dX7_frontOf_18 (by decide) ?_
        refine lv_iload_n hx hb dX7_frontOf_19 rfl (lv_at hl 4 rfl) ?_
        refine lv_imul hx hb dX7_frontOf_20 ?_
        refine lv_topi (fun x_1640 ex_1640 => ?_)
        have hG := hG.trans (lt_eq ex_1640)
        have vx_1640 : x_1640.toInt = 4 * p0.toInt := by have q := ti_mul ex_1640 kc_4 rfl (by omega) (by omega); omega
        refine lv_iload hx hb dX7_frontOf_21 (lv_at hl 0 rfl) ?_
        refine lv_iadd hx hb dX7_frontOf_23 ?_
        refine lv_topi (fun x_1641 ex_1641 => ?_)
        have hG := hG.trans (lt_eq ex_1641)
        have vx_1641 : x_1641.toInt = 4 * p0.toInt + z_1634.toInt := by have q := ti_add ex_1641 vx_1640 rfl (by omega) (by omega); omega
        refine lv_aload_n hx hb dX7_frontOf_24 rfl (lv_at hl 3 rfl) ?_
        refine lv_iconst (v := 4) hx hb dX7_frontOf_25 (by decide) ?_
        refine lv_iload_n hx hb dX7_frontOf_26 rfl (lv_at hl 4 rfl) ?_
        refine lv_imul hx hb dX7_frontOf_27 ?_
        refine lv_topi (fun x_1642 ex_1642 => ?_)
        have hG := hG.trans (lt_eq ex_1642)
        have vx_1642 : x_1642.toInt = 4 * p0.toInt := by have q := ti_mul ex_1642 kc_4 rfl (by omega) (by omega); omega
        refine lv_iload hx hb dX7_frontOf_28 (lv_at hl 0 rfl) ?_
        refine lv_iadd hx hb dX7_frontOf_30 ?_
        refine lv_topi (fun x_1643 ex_1643 => ?_)
        have hG := hG.trans (lt_eq ex_1643)
        have vx_1643 : x_1643.toInt = 4 * p0.toInt + z_1634.toInt := by have q := ti_add ex_1643 vx_1642 rfl (by omega) (by omega); omega
        refine lv_iconst (v := 1) hx hb dX7_frontOf_31 (by decide) ?_
        refine lv_isub hx hb dX7_frontOf_32 ?_
        refine lv_topi (fun x_1644 ex_1644 => ?_)
        have hG := hG.trans (lt_eq ex_1644)
        have vx_1644 : x_1644.toInt = 4 * p0.toInt + z_1634.toInt + (-1) := by have q := ti_sub ex_1644 vx_1643 kc_1 (by omega) (by omega); omega
        refine va_iald hx hb hK hP 2 1 rfl rfl (ti_in vx_1644 (by omega) (by omega)) dX7_frontOf_33 ?_
        refine lv_topi (fun x_1645 ex_1645 => ?_)
        have hG := hG.trans (lt_eq ex_1645)
        have kx_1645 : (f_1635 x_1644.toNatClampNeg).toInt = x_1645.toInt := by rw [ex_1645]
        refine va_iast hx hb hK hP hD hS 2 1 rfl rfl (ti_in vx_1641 (by omega) (by omega)) dX7_frontOf_34 (fun H locs hP hD hS => ?_)
        obtain ⟨f_1646, ef_1646⟩ : ∃ g : Nat → Int32, g = upd f_1635 x_1641.toNatClampNeg x_1645 := ⟨_, rfl⟩
        rw [← ef_1646] at hP hD
        have hG := hG.trans (lt_eq ef_1646)
        obtain ⟨hP, hD⟩ := wl2 (ws' := [(oc7 oM iM_thrown rM_tape iM_taped iM_size iM_at iM_end iM_token iM_whole iM_nameSize iM_fault iM_place iM_trouble rM_letters iM_failed iM_hasCourt rM_r rM_fresh rM_told rM_read rM_st rM_undone rM_kept iM_undos iM_images rM_fresher iM_fresherSize iM_scale iM_night rM_heardRow rM_cutRow iM_breaths iM_cutMany iM_allBreaths rM_trial rM_words iM_fewestBreaths iM_orderMany iM_orderSum iM_leastOrder rM_often iM_setMany iM_someOf iM_allOf iM_allWeight iM_enoughWeight iM_worthSum iM_firstRest iM_leastDrawn), (arI rM_r kM_r 287 fM_r), (arI rQ kQ 90 f_1646)]) hP hD rfl
        obtain ⟨x_1647, ex_1647⟩ : ∃ z : Int32, z = z_1634 + Int32.ofInt (-1) := ⟨_, rfl⟩
        have hG := hG.trans (lt_eq ex_1647)
        have vx_1647 : x_1647.toInt = z_1634.toInt + (-1) := by have q := ti_add (y := (-1)) ex_1647 rfl kc_m1 (by omega) (by omega); omega
        refine lv_iinc (v := x_1647) (lv' := [(5, .int x_1647), (4, .int x_1633), (0, .ref oM), (1, .ref rQ), (2, .int p0), (3, .int p1)]) hx hb dX7_frontOf_35 hl (k := 0) rfl ex_1647.symm (by decide) rfl (fun ls hl => ?_)
        refine lv_goto (tgt := 12) hx hb dX7_frontOf_38 (by decide) ?_
        exact ih_n_1636 x_1647 f_1646 _ _ _  (by first | omega | decide | assumption) (front_step (r := x_1644.toNatClampNeg) hi1_n_1636 ef_1646 (by have q1 := ti_cl (x := x_1641) vx_1641 (by omega); have q2 := ti_cl (x := p0) rfl (by omega); have q3 := ti_cl (x := z_1634) rfl (by omega); omega) (by have q := kx_1645; omega) (by have q1 := ti_cl (x := x_1644) vx_1644 (by omega); have q2 := ti_cl (x := p0) rfl (by omega); have q3 := ti_cl (x := z_1634) rfl (by omega); omega) (by have q1 := ti_cl (x := x_1647) vx_1647 (by omega); have q3 := ti_cl (x := z_1634) rfl (by omega); omega) (by have q3 := ti_cl (x := z_1634) rfl (by omega); have q4 := ti_cl (x := p1) rfl (by omega); omega)) (by omega) hG (hP.sub [0, 1, 2] rfl) (hD.sub [0, 1, 2] (by decide) rfl) hS (lv_sub hl [0, 1, 2, 3, 4, 5] rfl)
  exact key_n_1636 ((p1.toInt.toNat) + 1) p1 fQ _ _ _  (by first | omega | decide | assumption | (have q0 := kc_0; have q1 := kc_1; omega) | exact front_zero) (by first | omega | decide | assumption | (have q0 := kc_0; have q1 := kc_1; omega) | exact front_zero) (by omega) hG hP hD hS hl
set_option maxHeartbeats 4000000 in
set_option maxRecDepth 100000 in
theorem tX7_slipBy (l : Launch) (dC : Nat → ClassId) (dI : Nat → Nat → Nat) (sz : Nat) (oM : Nat) (iM_thrown : Int32) (rM_tape : Nat) (iM_taped : Int32) (iM_size : Int32) (iM_at : Int32) (iM_end : Int32) (iM_token : Int32) (iM_whole : Int32) (iM_nameSize : Int32) (iM_fault : Int32) (iM_place : Int32) (iM_trouble : Int32) (rM_letters : Nat) (iM_failed : Int32) (iM_hasCourt : Int32) (rM_r : Nat) (fM_r : Nat → Int32) (kM_r : ClassId) (rM_fresh : Nat) (rM_told : Nat) (rM_read : Nat) (rM_st : Nat) (rM_undone : Nat) (rM_kept : Nat) (iM_undos : Int32) (iM_images : Int32) (rM_fresher : Nat) (iM_fresherSize : Int32) (iM_scale : Int32) (iM_night : Int32) (rM_heardRow : Nat) (rM_cutRow : Nat) (iM_breaths : Int32) (iM_cutMany : Int32) (iM_allBreaths : Int32) (rM_trial : Nat) (fM_trial : Nat → Int32) (kM_trial : ClassId) (rM_words : Nat) (iM_fewestBreaths : Int32) (iM_orderMany : Int32) (iM_orderSum : Int32) (iM_leastOrder : Int32) (rM_often : Nat) (iM_setMany : Int32) (iM_someOf : Int32) (iM_allOf : Int32) (iM_allWeight : Int64) (iM_enoughWeight : Int64) (iM_worthSum : Int64) (iM_firstRest : Int32) (iM_leastDrawn : Int32) (rQ : Nat) (fQ : Nat → Int32) (kQ : ClassId) (p0 : Int32) (b_iM_taped : 0 ≤ iM_taped.toInt ∧ iM_taped.toInt ≤ 900) (b_iM_size : 0 ≤ iM_size.toInt ∧ iM_size.toInt ≤ 900) (b_iM_end : 0 ≤ iM_end.toInt ∧ iM_end.toInt ≤ 900) (b_iM_failed : 0 ≤ iM_failed.toInt ∧ iM_failed.toInt ≤ 1) (b_iM_hasCourt : 0 ≤ iM_hasCourt.toInt ∧ iM_hasCourt.toInt ≤ 1) (b_iM_undos : 0 ≤ iM_undos.toInt ∧ iM_undos.toInt ≤ 16) (b_iM_images : 0 ≤ iM_images.toInt ∧ iM_images.toInt ≤ 3) (b_iM_scale : 1 ≤ iM_scale.toInt ∧ iM_scale.toInt ≤ 1296) (b_iM_breaths : 0 ≤ iM_breaths.toInt ∧ iM_breaths.toInt ≤ 399) (b_iM_cutMany : 0 ≤ iM_cutMany.toInt ∧ iM_cutMany.toInt ≤ 399) (r_R : ROk fM_r) (r_C : iM_hasCourt.toInt ≤ 0 ∨ (1 ≤ (fM_r 1).toInt ∧ 0 ≤ (fM_r 6).toInt ∧ (fM_r 6).toInt < (fM_r 1).toInt)) (r_Q : RowOk fM_r fQ)  : Met l yX7_slipBy (Cond.code yX7_slipBy cX7_slipBy 4 none :: wG) ({ frames := 1, cells := 0, slots := 0, locals := 25 }) (va_Pc [.ref oM, .ref rQ, .int p0] (Pw dC dI sz [(oc7 oM iM_thrown rM_tape iM_taped iM_size iM_at iM_end iM_token iM_whole iM_nameSize iM_fault iM_place iM_trouble rM_letters iM_failed iM_hasCourt rM_r rM_fresh rM_told rM_read rM_st rM_undone rM_kept iM_undos iM_images rM_fresher iM_fresherSize iM_scale iM_night rM_heardRow rM_cutRow iM_breaths iM_cutMany iM_allBreaths rM_trial rM_words iM_fewestBreaths iM_orderMany iM_orderSum iM_leastOrder rM_often iM_setMany iM_someOf iM_allOf iM_allWeight iM_enoughWeight iM_worthSum iM_firstRest iM_leastDrawn), (arI rM_r kM_r 287 fM_r), (arI rM_trial kM_trial 90 fM_trial), (arI rQ kQ 90 fQ)] [(kM_r, .int), (kM_trial, .int), (kQ, .int)])) (va_Qv (fun (_ : Nat) => True) (fun (_ : Nat) (t : State) => ∃ (nfM_trial : Nat → Int32), (RowOk fM_r nfM_trial) ∧ (PX7_slipBy fM_r fM_trial fQ p0 = nfM_trial) ∧ Bw dC dI (va_A [(oc7 oM iM_thrown rM_tape iM_taped iM_size iM_at iM_end iM_token iM_whole iM_nameSize iM_fault iM_place iM_trouble rM_letters iM_failed iM_hasCourt rM_r rM_fresh rM_told rM_read rM_st rM_undone rM_kept iM_undos iM_images rM_fresher iM_fresherSize iM_scale iM_night rM_heardRow rM_cutRow iM_breaths iM_cutMany iM_allBreaths rM_trial rM_words iM_fewestBreaths iM_orderMany iM_orderSum iM_leastOrder rM_often iM_setMany iM_someOf iM_allOf iM_allWeight iM_enoughWeight iM_worthSum iM_firstRest iM_leastDrawn), (arI rM_r kM_r 287 fM_r), (arI rM_trial kM_trial 90 fM_trial), (arI rQ kQ 90 fQ)] sz) [(oc7 oM iM_thrown rM_tape iM_taped iM_size iM_at iM_end iM_token iM_whole iM_nameSize iM_fault iM_place iM_trouble rM_letters iM_failed iM_hasCourt rM_r rM_fresh rM_told rM_read rM_st rM_undone rM_kept iM_undos iM_images rM_fresher iM_fresherSize iM_scale iM_night rM_heardRow rM_cutRow iM_breaths iM_cutMany iM_allBreaths rM_trial rM_words iM_fewestBreaths iM_orderMany iM_orderSum iM_leastOrder rM_often iM_setMany iM_someOf iM_allOf iM_allWeight iM_enoughWeight iM_worthSum iM_firstRest iM_leastDrawn), (arI rM_r kM_r 287 fM_r), (arI rM_trial kM_trial 90 nfM_trial), (arI rQ kQ 90 fQ)] [(kM_r, .int), (kM_trial, .int), (kQ, .int)] t) (va_A [(oc7 oM iM_thrown rM_tape iM_taped iM_size iM_at iM_end iM_token iM_whole iM_nameSize iM_fault iM_place iM_trouble rM_letters iM_failed iM_hasCourt rM_r rM_fresh rM_told rM_read rM_st rM_undone rM_kept iM_undos iM_images rM_fresher iM_fresherSize iM_scale iM_night rM_heardRow rM_cutRow iM_breaths iM_cutMany iM_allBreaths rM_trial rM_words iM_fewestBreaths iM_orderMany iM_orderSum iM_leastOrder rM_often iM_setMany iM_someOf iM_allOf iM_allWeight iM_enoughWeight iM_worthSum iM_firstRest iM_leastDrawn), (arI rM_r kM_r 287 fM_r), (arI rM_trial kM_trial 90 fM_trial), (arI rQ kQ 90 fQ)] sz)) 0 0 (va_A [(oc7 oM iM_thrown rM_tape iM_taped iM_size iM_at iM_end iM_token iM_whole iM_nameSize iM_fault iM_place iM_trouble rM_letters iM_failed iM_hasCourt rM_r rM_fresh rM_told rM_read rM_st rM_undone rM_kept iM_undos iM_images rM_fresher iM_fresherSize iM_scale iM_night rM_heardRow rM_cutRow iM_breaths iM_cutMany iM_allBreaths rM_trial rM_words iM_fewestBreaths iM_orderMany iM_orderSum iM_leastOrder rM_often iM_setMany iM_someOf iM_allOf iM_allWeight iM_enoughWeight iM_worthSum iM_firstRest iM_leastDrawn), (arI rM_r kM_r 287 fM_r), (arI rM_trial kM_trial 90 fM_trial), (arI rQ kQ 90 fQ)] sz) := by
  refine Met.ofW (cc := cX7_slipBy) (maxL := 4) (ret := none) (by decide) rfl ?_
  intro p e s m args below meth c s₁ B hml hv
  obtain ⟨rfl, hsz, hP, hK, hD0, hE⟩ := hv
  have hx := B.exec
  have hb := B.bytes
  have hr := B.returns
  have hts : ∀ w ∈ wG, w.before ([.ref oM, .ref rQ, .int p0] : List Value).toArray s = true := fun w h => atoms_spec (ws := Cond.code yX7_slipBy cX7_slipBy 4 none :: wG) B.pre w (List.mem_cons_of_mem _ h)
  have hown : s.vm.findClass RX7 = some m.cls := findClass_of_methodNamed B.named
  have hlocks := B.notSynchronized
  subst hsz
  have hD := hD0.self (sz := s.heap.size)
  generalize hAe : va_A [(oc7 oM iM_thrown rM_tape iM_taped iM_size iM_at iM_end iM_token iM_whole iM_nameSize iM_fault iM_place iM_trouble rM_letters iM_failed iM_hasCourt rM_r rM_fresh rM_told rM_read rM_st rM_undone rM_kept iM_undos iM_images rM_fresher iM_fresherSize iM_scale iM_night rM_heardRow rM_cutRow iM_breaths iM_cutMany iM_allBreaths rM_trial rM_words iM_fewestBreaths iM_orderMany iM_orderSum iM_leastOrder rM_often iM_setMany iM_someOf iM_allOf iM_allWeight iM_enoughWeight iM_worthSum iM_firstRest iM_leastDrawn), (arI rM_r kM_r 287 fM_r), (arI rM_trial kM_trial 90 fM_trial), (arI rQ kQ 90 fQ)] s.heap.size = A at hD hE ⊢
  have hA : ∀ q : Nat, s.heap.size ≤ q → A q := fun q h => by rw [← hAe]; exact Or.inr h
  have hS : va_S A s.heap s.heap [] := va_S.rf
  have hl := lv_entry ([.ref oM, .ref rQ, .int p0]) (n := 4) (Nat.le_of_ble_eq_true rfl)
  rw [lg_entry_eq]
  generalize (lg_sl ([.ref oM, .ref rQ, .int p0]) ++ List.replicate (4 - (lg_sl ([.ref oM, .ref rQ, .int p0])).length) Slot.unset).toArray = ls at hl ⊢
  have hl : lv_has ls 4 [(0, .ref oM), (1, .ref rQ), (2, .int p0)] := hl
  have hG := PX7_slipBy_eq fM_r fM_trial fQ p0
  have s_slips := r_R.slips
  have s_nodes := r_R.nodes
  have s_uns := r_R.uns
  refine lv_aload_n hx hb dX7_slipBy_0 rfl (lv_at hl 1 rfl) ?_
  refine lv_iconst (v := 0) hx hb dX7_slipBy_1 (by decide) ?_
  refine lv_aload_n hx hb dX7_slipBy_2 rfl (lv_at hl 0 rfl) ?_
  refine va_get (D := (dC, dI)) (ci := 7) (v := .ref rM_trial) (C := RX7) (T := TX7) (N := 48) hx hb hts inX7 hown hK hP 0 rfl rfl 33 (by decide) (hts _ wd_167) (fun _ h9 => h9) rfl dX7_slipBy_3 ?_
  refine lv_iconst (v := 0) hx hb dX7_slipBy_6 (by decide) ?_
  refine lv_bipush (v := 90) hx hb dX7_slipBy_7 (by decide) ?_
  have hFc := va_free (wc := [(arI rQ kQ 90 fQ), (arI rM_trial kM_trial 90 fM_trial)]) hD hS hA [3, 2] rfl
  refine va_callv (va_runS (As := [.ref rQ, .int 0, .ref rM_trial, .int 0, .int 90]) (rest := []) ⟨hx, hb, hml, hown, hts⟩ (tX7_copy_90_90 l dC dI _ rQ fQ kQ rM_trial fM_trial kM_trial 0 0 90 (by first | omega | decide | assumption | (have q0 := kc_0; have q1 := kc_1; have q2 := kc_90; omega) | (intro h; exact absurd h (by decide))) (by first | omega | decide | assumption | (have q0 := kc_0; have q1 := kc_1; have q2 := kc_90; omega) | (intro h; exact absurd h (by decide))) (by first | omega | decide | assumption | (have q0 := kc_0; have q1 := kc_1; have q2 := kc_90; omega) | (intro h; exact absurd h (by decide)))) (va_cwS 5 hts (wd_S wd_475 wd_476 wd_5 (wd_c wd_477)) rfl rfl rfl (by decide +kernel) ⟨Nat.le_of_ble_eq_true rfl, Nat.le_of_ble_eq_true rfl⟩) ⟨Pw.fb, fun U hU hW => Pw.to (hP.sub [3, 2] rfl) (hD.sub [3, 2] (by decide) rfl) (hK.sub [2, 1] rfl) hE hS hFc hU hW⟩ rfl rfl hl.1 rfl (lv_room (Nat.le_of_ble_eq_true rfl)) dX7_slipBy_9 ⟨Nat.le_of_ble_eq_true rfl, Nat.le_of_ble_eq_true rfl⟩) hS (fun q _ h => hFc q h) hFc (fun u t H locs ht hvm hw hB hz1 hk1 hS => ?_)
  obtain ⟨f_1667, e_f_1667_0, hB⟩ := hB
  obtain ⟨hP, hD, hK⟩ := Bw.go (ws' := [(oc7 oM iM_thrown rM_tape iM_taped iM_size iM_at iM_end iM_token iM_whole iM_nameSize iM_fault iM_place iM_trouble rM_letters iM_failed iM_hasCourt rM_r rM_fresh rM_told rM_read rM_st rM_undone rM_kept iM_undos iM_images rM_fresher iM_fresherSize iM_scale iM_night rM_heardRow rM_cutRow iM_breaths iM_cutMany iM_allBreaths rM_trial rM_words iM_fewestBreaths iM_orderMany iM_orderSum iM_leastOrder rM_often iM_setMany iM_someOf iM_allOf iM_allWeight iM_enoughWeight iM_worthSum iM_firstRest iM_leastDrawn), (arI rM_r kM_r 287 fM_r), (arI rQ kQ 90 fQ), (arI rM_trial kM_trial 90 f_1667)]) (tys' := [(kM_r, .int), (kQ, .int), (kM_trial, .int)]) hB rfl ht hvm hP hD hK [3, 2] [0, 1] rfl (by decide) (by decide) [0] hk1 hFc rfl rfl rfl
  clear hz1 hk1 hvm ht hB
  have r_f_1667 : RowOk fM_r f_1667 := RowOk.copy r_R r_Q e_f_1667_0
  have hG := hG.trans (lt_eq (CopyOk.fn e_f_1667_0).symm)
  refine lv_iconst (v := 0) hx hb dX7_slipBy_12 (by decide) ?_
  refine lv_istore_n (lv' := [(3, .int 0), (0, .ref oM), (1, .ref rQ), (2, .int p0)]) hx hb dX7_slipBy_13 rfl hl (by decide) rfl (fun ls hl => ?_)
  have hl := lv_sub hl (l' := [(3, .int 0), (0, .ref oM), (1, .ref rQ), (2, .int p0)]) [0, 1, 2, 3] rfl
  have key_n_1670 : ∀ (n_1670 : Nat) (z_1668 : Int32) (f_1669 : Nat → Int32) (H : Heap) (locs : List Loc) (ls : Array Slot), (0 ≤ z_1668.toInt ∧ z_1668.toInt ≤ 4) → (RowOk fM_r f_1669) → (4 - z_1668.toInt).toNat < n_1670 → (PX7_slipBy fM_r fM_trial fQ p0 = HX7_slipBy_0 fM_r p0 n_1670 z_1668 f_1669) → va_P (dC, dI) vwCl [(oc7 oM iM_thrown rM_tape iM_taped iM_size iM_at iM_end iM_token iM_whole iM_nameSize iM_fault iM_place iM_trouble rM_letters iM_failed iM_hasCourt rM_r rM_fresh rM_told rM_read rM_st rM_undone rM_kept iM_undos iM_images rM_fresher iM_fresherSize iM_scale iM_night rM_heardRow rM_cutRow iM_breaths iM_cutMany iM_allBreaths rM_trial rM_words iM_fewestBreaths iM_orderMany iM_orderSum iM_leastOrder rM_often iM_setMany iM_someOf iM_allOf iM_allWeight iM_enoughWeight iM_worthSum iM_firstRest iM_leastDrawn), (arI rM_r kM_r 287 fM_r), (arI rQ kQ 90 fQ), (arI rM_trial kM_trial 90 f_1669)] H → va_D A [(oc7 oM iM_thrown rM_tape iM_taped iM_size iM_at iM_end iM_token iM_whole iM_nameSize iM_fault iM_place iM_trouble rM_letters iM_failed iM_hasCourt rM_r rM_fresh rM_told rM_read rM_st rM_undone rM_kept iM_undos iM_images rM_fresher iM_fresherSize iM_scale iM_night rM_heardRow rM_cutRow iM_breaths iM_cutMany iM_allBreaths rM_trial rM_words iM_fewestBreaths iM_orderMany iM_orderSum iM_leastOrder rM_often iM_setMany iM_someOf iM_allOf iM_allWeight iM_enoughWeight iM_worthSum iM_firstRest iM_leastDrawn), (arI rM_r kM_r 287 fM_r), (arI rQ kQ 90 fQ), (arI rM_trial kM_trial 90 f_1669)] → va_S A s.heap H locs → lv_has ls 4 [(3, .int z_1668), (0, .ref oM), (1, .ref rQ), (2, .int p0)] → W p l e (headSpec (Cond.code yX7_slipBy cX7_slipBy 4 none :: wG) ({ frames := 1, cells := 0, slots := 0, locals := 25 })).room s m ([.ref oM, .ref rQ, .int p0] : List Value).toArray below meth c H locs 0 0 (MQ below (va_Qv (fun (_ : Nat) => True) (fun (_ : Nat) (t : State) => ∃ (nfM_trial : Nat → Int32), (RowOk fM_r nfM_trial) ∧ (PX7_slipBy fM_r fM_trial fQ p0 = nfM_trial) ∧ Bw dC dI A [(oc7 oM iM_thrown rM_tape iM_taped iM_size iM_at iM_end iM_token iM_whole iM_nameSize iM_fault iM_place iM_trouble rM_letters iM_failed iM_hasCourt rM_r rM_fresh rM_told rM_read rM_st rM_undone rM_kept iM_undos iM_images rM_fresher iM_fresherSize iM_scale iM_night rM_heardRow rM_cutRow iM_breaths iM_cutMany iM_allBreaths rM_trial rM_words iM_fewestBreaths iM_orderMany iM_orderSum iM_leastOrder rM_often iM_setMany iM_someOf iM_allOf iM_allWeight iM_enoughWeight iM_worthSum iM_firstRest iM_leastDrawn), (arI rM_r kM_r 287 fM_r), (arI rM_trial kM_trial 90 nfM_trial), (arI rQ kQ 90 fQ)] [(kM_r, .int), (kM_trial, .int), (kQ, .int)] t) A) ([.ref oM, .ref rQ, .int p0] : List Value).toArray s 0 0 A) (F0 m 14 ls []) := by
    intro n_1670
    induction n_1670 with
    | zero => intro z_1668 f_1669 H locs ls hi0_n_1670 hi1_n_1670 hm; exact absurd hm (by omega)
    | succ n_1670 ih_n_1670 =>
      intro z_1668 f_1669 H locs ls hi0_n_1670 hi1_n_1670 hm hG hP hD hS hl
      have hG := hG.trans (HX7_slipBy_0_eq _ _ _ _ _)
      refine lv_iload_n hx hb dX7_slipBy_14 rfl (lv_at hl 0 rfl) ?_
      refine lv_aload_n hx hb dX7_slipBy_15 rfl (lv_at hl 1 rfl) ?_
      refine va_get (D := (dC, dI)) (ci := 7) (v := .ref rM_r) (C := RX7) (T := TX7) (N := 48) hx hb hts inX7 hown hK hP 0 rfl rfl 15 (by decide) (hts _ wd_155) (fun _ h9 => h9) rfl dX7_slipBy_16 ?_
      refine lv_iconst (v := 3) hx hb dX7_slipBy_19 (by decide) ?_
      refine va_iald hx hb hK hP 1 0 rfl rfl (by unfold vp_in; decide) dX7_slipBy_20 ?_
      refine lv_topi (fun x_1671 ex_1671 => ?_)
      have hG := hG.trans (lt_eq ex_1671)
      have cx_1671 : (fM_r 3).toInt = x_1671.toInt := congrArg Int32.toInt (show fM_r 3 = x_1671 from ex_1671.symm)
      have sx_1671 := r_R.uns
      refine lv_icmp_ge (tgt := 70) hx hb dX7_slipBy_21 (by decide) (fun c_1672 => ?_) (fun c_1672 => ?_)
      · skip
        have hG := hG.trans (if_pos c_1672)
        have gc_1672 := ti_le c_1672 rfl rfl
        exact W.vret hx hb hr (fun t ht hW => ⟨⟨0, rfl, trivial, ⟨f_1669, (by first | omega | decide | assumption), hG, Bw.to (hP.sub [0, 1, 3, 2] rfl) (hD.sub [0, 1, 3, 2] (by decide) rfl) (hK.sub [0, 2, 1] rfl) ht hW⟩⟩, hS.F ht⟩) hS.2.2 dX7_slipBy_70
      · skip
        have hG := hG.trans (if_neg c_1672)
        have gc_1672 := ti_nle c_1672 rfl rfl
        refine lv_iload_n hx hb dX7_slipBy_24 rfl (lv_at hl 3 rfl) ?_
        refine lv_iload_n hx hb dX7_slipBy_25 rfl (lv_at hl 0 rfl) ?_
        have hFc : ∀ q, va_A [] _ q → A q := fun q h => hA q (Nat.le_trans hS.1 (va_nilA h))
        refine va_calli (va_runS (As := [.int p0, .int z_1668]) (rest := []) ⟨hx, hb, hml, hown, hts⟩ (tX7_hasBit l dC dI _ p0 z_1668 ) (va_cwS 2 hts (wd_S wd_968 wd_969 wd_5 (wd_c wd_970)) rfl rfl rfl (by decide +kernel) ⟨Nat.le_of_ble_eq_true rfl, Nat.le_of_ble_eq_true rfl⟩) ⟨Pw.fb, fun U hU hW => Pn.to hK hE hS hA hU hW⟩ rfl rfl hl.1 rfl (lv_room (Nat.le_of_ble_eq_true rfl)) dX7_slipBy_26 ⟨Nat.le_of_ble_eq_true rfl, Nat.le_of_ble_eq_true rfl⟩) hS (fun q _ h => hFc q h) hFc (fun r u t H locs ht hvm hw hB hz1 hk1 hS => ?_)
        obtain ⟨hP, hD, hK⟩ := Bw.same ht hvm hP hD hK hk1 hFc
        clear hz1 hk1 hvm ht hB
        have hq9 := hw.2
        have hw := hw.1
        obtain ⟨x_1673, rfl⟩ : ∃ z, z = r := ⟨_, rfl⟩
        have hq_x_1673 := hq9
        have hG := hG.trans (lt_eq hq_x_1673.symm)
        have bx_1673 := hw.1
        have dx_1673 := bz_ti bx_1673
        refine lv_if_eq (tgt := 64) hx hb dX7_slipBy_29 (by decide) (fun c_1674 => ?_) (fun c_1674 => ?_)
        · skip
          have hG := hG.trans (if_pos c_1674)
          have gc_1674 := ti_eq c_1674 rfl kc_0
          obtain ⟨x_1675, ex_1675⟩ : ∃ z : Int32, z = z_1668 + Int32.ofInt 1 := ⟨_, rfl⟩
          have hG := hG.trans (lt_eq ex_1675)
          have vx_1675 : x_1675.toInt = z_1668.toInt + 1 := by have q := ti_add (y := 1) ex_1675 rfl kc_1 (by omega) (by omega); omega
          refine lv_iinc (v := x_1675) (lv' := [(3, .int x_1675), (0, .ref oM), (1, .ref rQ), (2, .int p0)]) hx hb dX7_slipBy_64 hl (k := 0) rfl ex_1675.symm (by decide) rfl (fun ls hl => ?_)
          refine lv_goto (tgt := 14) hx hb dX7_slipBy_67 (by decide) ?_
          exact ih_n_1670 x_1675 f_1669 _ _ _  (by first | omega | decide | assumption) (by first | omega | decide | assumption) (by omega) hG (hP.sub [0, 1, 2, 3] rfl) (hD.sub [0, 1, 2, 3] (by decide) rfl) hS (lv_sub hl [0, 1, 2, 3] rfl)
        · skip
          have hG := hG.trans (if_neg c_1674)
          have gc_1674 := ti_ne c_1674 rfl kc_0
          refine lv_aload_n hx hb dX7_slipBy_32 rfl (lv_at hl 1 rfl) ?_
          refine va_get (D := (dC, dI)) (ci := 7) (v := .ref rM_trial) (C := RX7) (T := TX7) (N := 48) hx hb hts inX7 hown hK hP 0 rfl rfl 33 (by decide) (hts _ wd_167) (fun _ h9 => h9) rfl dX7_slipBy_33 ?_
          refine lv_bipush (v := 72) hx hb dX7_slipBy_36 (by decide) ?_
          refine lv_aload_n hx hb dX7_slipBy_38 rfl (lv_at hl 1 rfl) ?_
          refine va_get (D := (dC, dI)) (ci := 7) (v := .ref rM_r) (C := RX7) (T := TX7) (N := 48) hx hb hts inX7 hown hK hP 0 rfl rfl 15 (by decide) (hts _ wd_155) (fun _ h9 => h9) rfl dX7_slipBy_39 ?_
          refine lv_bipush (v := 117) hx hb dX7_slipBy_42 (by decide) ?_
          refine lv_iconst (v := 2) hx hb dX7_slipBy_44 (by decide) ?_
          refine lv_iload_n hx hb dX7_slipBy_45 rfl (lv_at hl 0 rfl) ?_
          refine lv_imul hx hb dX7_slipBy_46 ?_
          refine lv_topi (fun x_1676 ex_1676 => ?_)
          have hG := hG.trans (lt_eq ex_1676)
          have vx_1676 : x_1676.toInt = 2 * z_1668.toInt := by have q := ti_mul ex_1676 kc_2 rfl (by omega) (by omega); omega
          refine lv_iadd hx hb dX7_slipBy_47 ?_
          refine lv_topi (fun x_1677 ex_1677 => ?_)
          have hG := hG.trans (lt_eq ex_1677)
          have vx_1677 : x_1677.toInt = 2 * z_1668.toInt + 117 := by have q := ti_add ex_1677 kc_117 vx_1676 (by omega) (by omega); omega
          refine va_iald hx hb hK hP 1 0 rfl rfl (ti_in vx_1677 (by omega) (by omega)) dX7_slipBy_48 ?_
          refine lv_topi (fun x_1678 ex_1678 => ?_)
          have hG := hG.trans (lt_eq ex_1678)
          have kx_1678 : (fM_r x_1677.toNatClampNeg).toInt = x_1678.toInt := by rw [ex_1678]
          have cx_1678 : (fM_r (117 + 2 * z_1668.toNatClampNeg)).toInt = x_1678.toInt := by rw [show 117 + 2 * z_1668.toNatClampNeg = x_1677.toNatClampNeg from by have q9 := ti_cl (x := x_1677) vx_1677 (by omega); have q_z_1668 := ti_cl (x := z_1668) rfl (by omega); omega]; exact kx_1678
          have sx_1678 := r_R.dnode z_1668.toNatClampNeg (by have q_1 := ti_cl (x := z_1668) rfl (by omega); omega)
          have sx_1678 : 0 ≤ x_1678.toInt ∧ x_1678.toInt ≤ 17 := by have q_3 := cx_1678; omega
          refine lv_iadd hx hb dX7_slipBy_49 ?_
          refine lv_topi (fun x_1679 ex_1679 => ?_)
          have hG := hG.trans (lt_eq ex_1679)
          have vx_1679 : x_1679.toInt = x_1678.toInt + 72 := by have q := ti_add ex_1679 kc_72 rfl (by omega) (by omega); omega
          refine lv_aload_n hx hb dX7_slipBy_50 rfl (lv_at hl 1 rfl) ?_
          refine va_get (D := (dC, dI)) (ci := 7) (v := .ref rM_r) (C := RX7) (T := TX7) (N := 48) hx hb hts inX7 hown hK hP 0 rfl rfl 15 (by decide) (hts _ wd_155) (fun _ h9 => h9) rfl dX7_slipBy_51 ?_
          refine lv_bipush (v := 117) hx hb dX7_slipBy_54 (by decide) ?_
          refine lv_iconst (v := 2) hx hb dX7_slipBy_56 (by decide) ?_
          refine lv_iload_n hx hb dX7_slipBy_57 rfl (lv_at hl 0 rfl) ?_
          refine lv_imul hx hb dX7_slipBy_58 ?_
          refine lv_topi (fun x_1680 ex_1680 => ?_)
          have hG := hG.trans (lt_eq ex_1680)
          have vx_1680 : x_1680.toInt = 2 * z_1668.toInt := by have q := ti_mul ex_1680 kc_2 rfl (by omega) (by omega); omega
          refine lv_iadd hx hb dX7_slipBy_59 ?_
          refine lv_topi (fun x_1681 ex_1681 => ?_)
          have hG := hG.trans (lt_eq ex_1681)
          have vx_1681 : x_1681.toInt = 2 * z_1668.toInt + 117 := by have q := ti_add ex_1681 kc_117 vx_1680 (by omega) (by omega); omega
          refine lv_iconst (v := 1) hx hb dX7_slipBy_60 (by decide) ?_
          refine lv_iadd hx hb dX7_slipBy_61 ?_
          refine lv_topi (fun x_1682 ex_1682 => ?_)
          have hG := hG.trans (lt_eq ex_1682)
          have vx_1682 : x_1682.toInt = 2 * z_1668.toInt + 118 := by have q := ti_add ex_1682 vx_1681 kc_1 (by omega) (by omega); omega
          refine va_iald hx hb hK hP 1 0 rfl rfl (ti_in vx_1682 (by omega) (by omega)) dX7_slipBy_62 ?_
          refine lv_topi (fun x_1683 ex_1683 => ?_)
          have hG := hG.trans (lt_eq ex_1683)
          have kx_1683 : (fM_r x_1682.toNatClampNeg).toInt = x_1683.toInt := by rw [ex_1683]
          have cx_1683 : (fM_r (118 + 2 * z_1668.toNatClampNeg)).toInt = x_1683.toInt := by rw [show 118 + 2 * z_1668.toNatClampNeg = x_1682.toNatClampNeg from by have q9 := ti_cl (x := x_1682) vx_1682 (by omega); have q_z_1668 := ti_cl (x := z_1668) rfl (by omega); omega]; exact kx_1683
          refine va_iast hx hb hK hP hD hS 3 2 rfl rfl (ti_in vx_1679 (by omega) (by omega)) dX7_slipBy_63 (fun H locs hP hD hS => ?_)
          obtain ⟨f_1684, ef_1684⟩ : ∃ g : Nat → Int32, g = upd f_1669 x_1679.toNatClampNeg x_1683 := ⟨_, rfl⟩
          rw [← ef_1684] at hP hD
          have hG := hG.trans (lt_eq ef_1684)
          obtain ⟨hP, hD⟩ := wl2 (ws' := [(oc7 oM iM_thrown rM_tape iM_taped iM_size iM_at iM_end iM_token iM_whole iM_nameSize iM_fault iM_place iM_trouble rM_letters iM_failed iM_hasCourt rM_r rM_fresh rM_told rM_read rM_st rM_undone rM_kept iM_undos iM_images rM_fresher iM_fresherSize iM_scale iM_night rM_heardRow rM_cutRow iM_breaths iM_cutMany iM_allBreaths rM_trial rM_words iM_fewestBreaths iM_orderMany iM_orderSum iM_leastOrder rM_often iM_setMany iM_someOf iM_allOf iM_allWeight iM_enoughWeight iM_worthSum iM_firstRest iM_leastDrawn), (arI rM_r kM_r 287 fM_r), (arI rQ kQ 90 fQ), (arI rM_trial kM_trial 90 f_1684)]) hP hD rfl
          have r_f_1684 : RowOk fM_r f_1684 := RowOk.hi r_R hi1_n_1670 ef_1684 (by have q9 := ti_cl (x := x_1679) vx_1679 (by omega); omega)
          obtain ⟨x_1685, ex_1685⟩ : ∃ z : Int32, z = z_1668 + Int32.ofInt 1 := ⟨_, rfl⟩
          have hG := hG.trans (lt_eq ex_1685)
          have vx_1685 : x_1685.toInt = z_1668.toInt + 1 := by have q := ti_add (y := 1) ex_1685 rfl kc_1 (by omega) (by omega); omega
          refine lv_iinc (v := x_1685) (lv' := [(3, .int x_1685), (0, .ref oM), (1, .ref rQ), (2, .int p0)]) hx hb dX7_slipBy_64 hl (k := 0) rfl ex_1685.symm (by decide) rfl (fun ls hl => ?_)
          refine lv_goto (tgt := 14) hx hb dX7_slipBy_67 (by decide) ?_
          exact ih_n_1670 x_1685 f_1684 _ _ _  (by first | omega | decide | assumption) (by first | omega | decide | assumption) (by omega) hG (hP.sub [0, 1, 2, 3] rfl) (hD.sub [0, 1, 2, 3] (by decide) rfl) hS (lv_sub hl [0, 1, 2, 3] rfl)
  exact key_n_1670 (((4 - (0 : Int32).toInt).toNat) + 1) 0 f_1667 _ _ _  (by first | omega | decide | assumption | (have q0 := kc_0; have q1 := kc_1; omega)) (by first | omega | decide | assumption | (have q0 := kc_0; have q1 := kc_1; omega)) (by omega) hG hP hD hS hl
set_option maxHeartbeats 4000000 in
set_option maxRecDepth 100000 in
theorem tX7_throneIf (l : Launch) (dC : Nat → ClassId) (dI : Nat → Nat → Nat) (sz : Nat) (oM : Nat) (iM_thrown : Int32) (rM_tape : Nat) (iM_taped : Int32) (iM_size : Int32) (iM_at : Int32) (iM_end : Int32) (iM_token : Int32) (iM_whole : Int32) (iM_nameSize : Int32) (iM_fault : Int32) (iM_place : Int32) (iM_trouble : Int32) (rM_letters : Nat) (iM_failed : Int32) (iM_hasCourt : Int32) (rM_r : Nat) (fM_r : Nat → Int32) (kM_r : ClassId) (rM_fresh : Nat) (rM_told : Nat) (fM_told : Nat → Int32) (kM_told : ClassId) (rM_read : Nat) (rM_st : Nat) (fM_st : Nat → Int32) (kM_st : ClassId) (rM_undone : Nat) (rM_kept : Nat) (iM_undos : Int32) (iM_images : Int32) (rM_fresher : Nat) (iM_fresherSize : Int32) (iM_scale : Int32) (iM_night : Int32) (rM_heardRow : Nat) (rM_cutRow : Nat) (iM_breaths : Int32) (iM_cutMany : Int32) (iM_allBreaths : Int32) (rM_trial : Nat) (fM_trial : Nat → Int32) (kM_trial : ClassId) (rM_words : Nat) (iM_fewestBreaths : Int32) (iM_orderMany : Int32) (iM_orderSum : Int32) (iM_leastOrder : Int32) (rM_often : Nat) (iM_setMany : Int32) (iM_someOf : Int32) (iM_allOf : Int32) (iM_allWeight : Int64) (iM_enoughWeight : Int64) (iM_worthSum : Int64) (iM_firstRest : Int32) (iM_leastDrawn : Int32) (p0 : Int32) (p1 : Int32) (b_iM_taped : 0 ≤ iM_taped.toInt ∧ iM_taped.toInt ≤ 900) (b_iM_size : 0 ≤ iM_size.toInt ∧ iM_size.toInt ≤ 900) (b_iM_end : 0 ≤ iM_end.toInt ∧ iM_end.toInt ≤ 900) (b_iM_failed : 0 ≤ iM_failed.toInt ∧ iM_failed.toInt ≤ 1) (b_iM_hasCourt : 0 ≤ iM_hasCourt.toInt ∧ iM_hasCourt.toInt ≤ 1) (b_iM_undos : 0 ≤ iM_undos.toInt ∧ iM_undos.toInt ≤ 16) (b_iM_images : 0 ≤ iM_images.toInt ∧ iM_images.toInt ≤ 3) (b_iM_scale : 1 ≤ iM_scale.toInt ∧ iM_scale.toInt ≤ 1296) (b_iM_breaths : 0 ≤ iM_breaths.toInt ∧ iM_breaths.toInt ≤ 399) (b_iM_cutMany : 0 ≤ iM_cutMany.toInt ∧ iM_cutMany.toInt ≤ 399) (r_R : ROk fM_r) (r_C : iM_hasCourt.toInt ≤ 0 ∨ (1 ≤ (fM_r 1).toInt ∧ 0 ≤ (fM_r 6).toInt ∧ (fM_r 6).toInt < (fM_r 1).toInt)) (r_st : RowOk fM_r fM_st) (r_told : RowOk fM_r fM_told) (r_wst : WorOk fM_st) (hth : 0 ≤ (fM_r 6).toInt ∧ (fM_r 6).toInt < (fM_r 1).toInt) : Met l yX7_throneIf (Cond.code yX7_throneIf cX7_throneIf 4 (some .int) :: wG) ({ frames := 22, cells := 0, slots := 0, locals := 585 }) (va_Pc [.ref oM, .int p0, .int p1] (Pw dC dI sz [(oc7 oM iM_thrown rM_tape iM_taped iM_size iM_at iM_end iM_token iM_whole iM_nameSize iM_fault iM_place iM_trouble rM_letters iM_failed iM_hasCourt rM_r rM_fresh rM_told rM_read rM_st rM_undone rM_kept iM_undos iM_images rM_fresher iM_fresherSize iM_scale iM_night rM_heardRow rM_cutRow iM_breaths iM_cutMany iM_allBreaths rM_trial rM_words iM_fewestBreaths iM_orderMany iM_orderSum iM_leastOrder rM_often iM_setMany iM_someOf iM_allOf iM_allWeight iM_enoughWeight iM_worthSum iM_firstRest iM_leastDrawn), (arI rM_r kM_r 287 fM_r), (arI rM_told kM_told 90 fM_told), (arI rM_st kM_st 90 fM_st), (arI rM_trial kM_trial 90 fM_trial)] [(kM_r, .int), (kM_told, .int), (kM_st, .int), (kM_trial, .int)])) (va_Qi (fun (r : Int32) (u : Nat) => (True ∧ True) ∧ r = Int32.ofNat u) (fun (u : Nat) (t : State) => ∃ (nfM_trial : Nat → Int32), (PX7_throneIf fM_r fM_told fM_st iM_scale iM_night fM_trial p0 p1 = (Int32.ofNat u, nfM_trial)) ∧ Bw dC dI (va_A [(oc7 oM iM_thrown rM_tape iM_taped iM_size iM_at iM_end iM_token iM_whole iM_nameSize iM_fault iM_place iM_trouble rM_letters iM_failed iM_hasCourt rM_r rM_fresh rM_told rM_read rM_st rM_undone rM_kept iM_undos iM_images rM_fresher iM_fresherSize iM_scale iM_night rM_heardRow rM_cutRow iM_breaths iM_cutMany iM_allBreaths rM_trial rM_words iM_fewestBreaths iM_orderMany iM_orderSum iM_leastOrder rM_often iM_setMany iM_someOf iM_allOf iM_allWeight iM_enoughWeight iM_worthSum iM_firstRest iM_leastDrawn), (arI rM_r kM_r 287 fM_r), (arI rM_told kM_told 90 fM_told), (arI rM_st kM_st 90 fM_st), (arI rM_trial kM_trial 90 fM_trial)] sz) [(oc7 oM iM_thrown rM_tape iM_taped iM_size iM_at iM_end iM_token iM_whole iM_nameSize iM_fault iM_place iM_trouble rM_letters iM_failed iM_hasCourt rM_r rM_fresh rM_told rM_read rM_st rM_undone rM_kept iM_undos iM_images rM_fresher iM_fresherSize iM_scale iM_night rM_heardRow rM_cutRow iM_breaths iM_cutMany iM_allBreaths rM_trial rM_words iM_fewestBreaths iM_orderMany iM_orderSum iM_leastOrder rM_often iM_setMany iM_someOf iM_allOf iM_allWeight iM_enoughWeight iM_worthSum iM_firstRest iM_leastDrawn), (arI rM_r kM_r 287 fM_r), (arI rM_told kM_told 90 fM_told), (arI rM_st kM_st 90 fM_st), (arI rM_trial kM_trial 90 nfM_trial)] [(kM_r, .int), (kM_told, .int), (kM_st, .int), (kM_trial, .int)] t) (va_A [(oc7 oM iM_thrown rM_tape iM_taped iM_size iM_at iM_end iM_token iM_whole iM_nameSize iM_fault iM_place iM_trouble rM_letters iM_failed iM_hasCourt rM_r rM_fresh rM_told rM_read rM_st rM_undone rM_kept iM_undos iM_images rM_fresher iM_fresherSize iM_scale iM_night rM_heardRow rM_cutRow iM_breaths iM_cutMany iM_allBreaths rM_trial rM_words iM_fewestBreaths iM_orderMany iM_orderSum iM_leastOrder rM_often iM_setMany iM_someOf iM_allOf iM_allWeight iM_enoughWeight iM_worthSum iM_firstRest iM_leastDrawn), (arI rM_r kM_r 287 fM_r), (arI rM_told kM_told 90 fM_told), (arI rM_st kM_st 90 fM_st), (arI rM_trial kM_trial 90 fM_trial)] sz)) 0 0 (va_A [(oc7 oM iM_thrown rM_tape iM_taped iM_size iM_at iM_end iM_token iM_whole iM_nameSize iM_fault iM_place iM_trouble rM_letters iM_failed iM_hasCourt rM_r rM_fresh rM_told rM_read rM_st rM_undone rM_kept iM_undos iM_images rM_fresher iM_fresherSize iM_scale iM_night rM_heardRow rM_cutRow iM_breaths iM_cutMany iM_allBreaths rM_trial rM_words iM_fewestBreaths iM_orderMany iM_orderSum iM_leastOrder rM_often iM_setMany iM_someOf iM_allOf iM_allWeight iM_enoughWeight iM_worthSum iM_firstRest iM_leastDrawn), (arI rM_r kM_r 287 fM_r), (arI rM_told kM_told 90 fM_told), (arI rM_st kM_st 90 fM_st), (arI rM_trial kM_trial 90 fM_trial)] sz) := by
  refine Met.ofW (cc := cX7_throneIf) (maxL := 4) (ret := (some .int)) (by decide) rfl ?_
  intro p e s m args below meth c s₁ B hml hv
  obtain ⟨rfl, hsz, hP, hK, hD0, hE⟩ := hv
  have hx := B.exec
  have hb := B.bytes
  have hr := B.returns
  have hts : ∀ w ∈ wG, w.before ([.ref oM, .int p0, .int p1] : List Value).toArray s = true := fun w h => atoms_spec (ws := Cond.code yX7_throneIf cX7_throneIf 4 (some .int) :: wG) B.pre w (List.mem_cons_of_mem _ h)
  have hown : s.vm.findClass RX7 = some m.cls := findClass_of_methodNamed B.named
  have hlocks := B.notSynchronized
  subst hsz
  have hD := hD0.self (sz := s.heap.size)
  generalize hAe : va_A [(oc7 oM iM_thrown rM_tape iM_taped iM_size iM_at iM_end iM_token iM_whole iM_nameSize iM_fault iM_place iM_trouble rM_letters iM_failed iM_hasCourt rM_r rM_fresh rM_told rM_read rM_st rM_undone rM_kept iM_undos iM_images rM_fresher iM_fresherSize iM_scale iM_night rM_heardRow rM_cutRow iM_breaths iM_cutMany iM_allBreaths rM_trial rM_words iM_fewestBreaths iM_orderMany iM_orderSum iM_leastOrder rM_often iM_setMany iM_someOf iM_allOf iM_allWeight iM_enoughWeight iM_worthSum iM_firstRest iM_leastDrawn), (arI rM_r kM_r 287 fM_r), (arI rM_told kM_told 90 fM_told), (arI rM_st kM_st 90 fM_st), (arI rM_trial kM_trial 90 fM_trial)] s.heap.size = A at hD hE ⊢
  have hA : ∀ q : Nat, s.heap.size ≤ q → A q := fun q h => by rw [← hAe]; exact Or.inr h
  have hS : va_S A s.heap s.heap [] := va_S.rf
  have hl := lv_entry ([.ref oM, .int p0, .int p1]) (n := 4) (Nat.le_of_ble_eq_true rfl)
  rw [lg_entry_eq]
  generalize (lg_sl ([.ref oM, .int p0, .int p1]) ++ List.replicate (4 - (lg_sl ([.ref oM, .int p0, .int p1])).length) Slot.unset).toArray = ls at hl ⊢
  have hl : lv_has ls 4 [(0, .ref oM), (1, .int p0), (2, .int p1)] := hl
  have hG := PX7_throneIf_eq fM_r fM_told fM_st iM_scale iM_night fM_trial p0 p1
  have s_slips := r_R.slips
  have s_nodes := r_R.nodes
  have s_uns := r_R.uns
  refine lv_aload_n hx hb dX7_throneIf_0 rfl (lv_at hl 0 rfl) ?_
  refine va_get (D := (dC, dI)) (ci := 7) (v := .ref rM_st) (C := RX7) (T := TX7) (N := 48) hx hb hts inX7 hown hK hP 0 rfl rfl 19 (by decide) (hts _ wd_159) (fun _ h9 => h9) rfl dX7_throneIf_1 ?_
  refine lv_iconst (v := 0) hx hb dX7_throneIf_4 (by decide) ?_
  refine lv_aload_n hx hb dX7_throneIf_5 rfl (lv_at hl 0 rfl) ?_
  refine va_get (D := (dC, dI)) (ci := 7) (v := .ref rM_trial) (C := RX7) (T := TX7) (N := 48) hx hb hts inX7 hown hK hP 0 rfl rfl 33 (by decide) (hts _ wd_167) (fun _ h9 => h9) rfl dX7_throneIf_6 ?_
  refine lv_iconst (v := 0) hx hb dX7_throneIf_9 (by decide) ?_
  refine lv_bipush (v := 90) hx hb dX7_throneIf_10 (by decide) ?_
  have hFc := va_free (wc := [(arI rM_st kM_st 90 fM_st), (arI rM_trial kM_trial 90 fM_trial)]) hD hS hA [3, 4] rfl
  refine va_callv (va_runS (As := [.ref rM_st, .int 0, .ref rM_trial, .int 0, .int 90]) (rest := []) ⟨hx, hb, hml, hown, hts⟩ (tX7_copy_90_90 l dC dI _ rM_st fM_st kM_st rM_trial fM_trial kM_trial 0 0 90 (by first | omega | decide | assumption | (have q0 := kc_0; have q1 := kc_1; have q2 := kc_90; omega) | (intro h; exact absurd h (by decide))) (by first | omega | decide | assumption | (have q0 := kc_0; have q1 := kc_1; have q2 := kc_90; omega) | (intro h; exact absurd h (by decide))) (by first | omega | decide | assumption | (have q0 := kc_0; have q1 := kc_1; have q2 := kc_90; omega) | (intro h; exact absurd h (by decide)))) (va_cwS 5 hts (wd_S wd_475 wd_476 wd_5 (wd_c wd_477)) rfl rfl rfl (by decide +kernel) ⟨Nat.le_of_ble_eq_true rfl, Nat.le_of_ble_eq_true rfl⟩) ⟨Pw.fb, fun U hU hW => Pw.to (hP.sub [3, 4] rfl) (hD.sub [3, 4] (by decide) rfl) (hK.sub [2, 3] rfl) hE hS hFc hU hW⟩ rfl rfl hl.1 rfl (lv_room (Nat.le_of_ble_eq_true rfl)) dX7_throneIf_12 ⟨Nat.le_of_ble_eq_true rfl, Nat.le_of_ble_eq_true rfl⟩) hS (fun q _ h => hFc q h) hFc (fun u t H locs ht hvm hw hB hz1 hk1 hS => ?_)
  obtain ⟨f_1703, e_f_1703_0, hB⟩ := hB
  obtain ⟨hP, hD, hK⟩ := Bw.go (ws' := [(oc7 oM iM_thrown rM_tape iM_taped iM_size iM_at iM_end iM_token iM_whole iM_nameSize iM_fault iM_place iM_trouble rM_letters iM_failed iM_hasCourt rM_r rM_fresh rM_told rM_read rM_st rM_undone rM_kept iM_undos iM_images rM_fresher iM_fresherSize iM_scale iM_night rM_heardRow rM_cutRow iM_breaths iM_cutMany iM_allBreaths rM_trial rM_words iM_fewestBreaths iM_orderMany iM_orderSum iM_leastOrder rM_often iM_setMany iM_someOf iM_allOf iM_allWeight iM_enoughWeight iM_worthSum iM_firstRest iM_leastDrawn), (arI rM_r kM_r 287 fM_r), (arI rM_told kM_told 90 fM_told), (arI rM_st kM_st 90 fM_st), (arI rM_trial kM_trial 90 f_1703)]) (tys' := [(kM_r, .int), (kM_told, .int), (kM_st, .int), (kM_trial, .int)]) hB rfl ht hvm hP hD hK [3, 4] [0, 1, 2] rfl (by decide) (by decide) [0, 1] hk1 hFc rfl rfl rfl
  clear hz1 hk1 hvm ht hB
  have r_f_1703 : RowOk fM_r f_1703 := RowOk.copy r_R r_st e_f_1703_0
  have hG := hG.trans (lt_eq (CopyOk.fn e_f_1703_0).symm)
  refine lv_iconst (v := 0) hx hb dX7_throneIf_15 (by decide) ?_
  refine lv_istore_n (lv' := [(3, .int 0), (0, .ref oM), (1, .int p0), (2, .int p1)]) hx hb dX7_throneIf_16 rfl hl (by decide) rfl (fun ls hl => ?_)
  have hl := lv_sub hl (l' := [(3, .int 0), (0, .ref oM), (1, .int p0), (2, .int p1)]) [0, 1, 2, 3] rfl
  have key_n_1706 : ∀ (n_1706 : Nat) (z_1704 : Int32) (f_1705 : Nat → Int32) (H : Heap) (locs : List Loc) (ls : Array Slot), (0 ≤ z_1704.toInt ∧ z_1704.toInt ≤ 18) → (RowOk fM_r f_1705) → (18 - z_1704.toInt).toNat < n_1706 → (PX7_throneIf fM_r fM_told fM_st iM_scale iM_night fM_trial p0 p1 = HX7_throneIf_0 fM_r fM_told iM_scale iM_night p0 p1 n_1706 z_1704 f_1705) → va_P (dC, dI) vwCl [(oc7 oM iM_thrown rM_tape iM_taped iM_size iM_at iM_end iM_token iM_whole iM_nameSize iM_fault iM_place iM_trouble rM_letters iM_failed iM_hasCourt rM_r rM_fresh rM_told rM_read rM_st rM_undone rM_kept iM_undos iM_images rM_fresher iM_fresherSize iM_scale iM_night rM_heardRow rM_cutRow iM_breaths iM_cutMany iM_allBreaths rM_trial rM_words iM_fewestBreaths iM_orderMany iM_orderSum iM_leastOrder rM_often iM_setMany iM_someOf iM_allOf iM_allWeight iM_enoughWeight iM_worthSum iM_firstRest iM_leastDrawn), (arI rM_r kM_r 287 fM_r), (arI rM_told kM_told 90 fM_told), (arI rM_st kM_st 90 fM_st), (arI rM_trial kM_trial 90 f_1705)] H → va_D A [(oc7 oM iM_thrown rM_tape iM_taped iM_size iM_at iM_end iM_token iM_whole iM_nameSize iM_fault iM_place iM_trouble rM_letters iM_failed iM_hasCourt rM_r rM_fresh rM_told rM_read rM_st rM_undone rM_kept iM_undos iM_images rM_fresher iM_fresherSize iM_scale iM_night rM_heardRow rM_cutRow iM_breaths iM_cutMany iM_allBreaths rM_trial rM_words iM_fewestBreaths iM_orderMany iM_orderSum iM_leastOrder rM_often iM_setMany iM_someOf iM_allOf iM_allWeight iM_enoughWeight iM_worthSum iM_firstRest iM_leastDrawn), (arI rM_r kM_r 287 fM_r), (arI rM_told kM_told 90 fM_told), (arI rM_st kM_st 90 fM_st), (arI rM_trial kM_trial 90 f_1705)] → va_S A s.heap H locs → lv_has ls 4 [(3, .int z_1704), (0, .ref oM), (1, .int p0), (2, .int p1)] → W p l e (headSpec (Cond.code yX7_throneIf cX7_throneIf 4 (some .int) :: wG) ({ frames := 22, cells := 0, slots := 0, locals := 585 })).room s m ([.ref oM, .int p0, .int p1] : List Value).toArray below meth c H locs 0 0 (MQ below (va_Qi (fun (r : Int32) (u : Nat) => (True ∧ True) ∧ r = Int32.ofNat u) (fun (u : Nat) (t : State) => ∃ (nfM_trial : Nat → Int32), (PX7_throneIf fM_r fM_told fM_st iM_scale iM_night fM_trial p0 p1 = (Int32.ofNat u, nfM_trial)) ∧ Bw dC dI A [(oc7 oM iM_thrown rM_tape iM_taped iM_size iM_at iM_end iM_token iM_whole iM_nameSize iM_fault iM_place iM_trouble rM_letters iM_failed iM_hasCourt rM_r rM_fresh rM_told rM_read rM_st rM_undone rM_kept iM_undos iM_images rM_fresher iM_fresherSize iM_scale iM_night rM_heardRow rM_cutRow iM_breaths iM_cutMany iM_allBreaths rM_trial rM_words iM_fewestBreaths iM_orderMany iM_orderSum iM_leastOrder rM_often iM_setMany iM_someOf iM_allOf iM_allWeight iM_enoughWeight iM_worthSum iM_firstRest iM_leastDrawn), (arI rM_r kM_r 287 fM_r), (arI rM_told kM_told 90 fM_told), (arI rM_st kM_st 90 fM_st), (arI rM_trial kM_trial 90 nfM_trial)] [(kM_r, .int), (kM_told, .int), (kM_st, .int), (kM_trial, .int)] t) A) ([.ref oM, .int p0, .int p1] : List Value).toArray s 0 0 A) (F0 m 17 ls []) := by
    intro n_1706
    induction n_1706 with
    | zero => intro z_1704 f_1705 H locs ls hi0_n_1706 hi1_n_1706 hm; exact absurd hm (by omega)
    | succ n_1706 ih_n_1706 =>
      intro z_1704 f_1705 H locs ls hi0_n_1706 hi1_n_1706 hm hG hP hD hS hl
      have hG := hG.trans (HX7_throneIf_0_eq _ _ _ _ _ _ _ _ _)
      refine lv_iload_n hx hb dX7_throneIf_17 rfl (lv_at hl 0 rfl) ?_
      refine lv_aload_n hx hb dX7_throneIf_18 rfl (lv_at hl 1 rfl) ?_
      refine va_get (D := (dC, dI)) (ci := 7) (v := .ref rM_r) (C := RX7) (T := TX7) (N := 48) hx hb hts inX7 hown hK hP 0 rfl rfl 15 (by decide) (hts _ wd_155) (fun _ h9 => h9) rfl dX7_throneIf_19 ?_
      refine lv_iconst (v := 1) hx hb dX7_throneIf_22 (by decide) ?_
      refine va_iald hx hb hK hP 1 0 rfl rfl (by unfold vp_in; decide) dX7_throneIf_23 ?_
      refine lv_topi (fun x_1707 ex_1707 => ?_)
      have hG := hG.trans (lt_eq ex_1707)
      have cx_1707 : (fM_r 1).toInt = x_1707.toInt := congrArg Int32.toInt (show fM_r 1 = x_1707 from ex_1707.symm)
      have sx_1707 := r_R.nodes
      refine lv_icmp_ge (tgt := 63) hx hb dX7_throneIf_24 (by decide) (fun c_1708 => ?_) (fun c_1708 => ?_)
      · skip
        have hG := hG.trans (if_pos c_1708)
        have gc_1708 := ti_le c_1708 rfl rfl
        refine lv_aload_n hx hb dX7_throneIf_63 rfl (lv_at hl 1 rfl) ?_
        refine lv_aload_n hx hb dX7_throneIf_64 rfl (lv_at hl 1 rfl) ?_
        refine va_get (D := (dC, dI)) (ci := 7) (v := .ref rM_trial) (C := RX7) (T := TX7) (N := 48) hx hb hts inX7 hown hK hP 0 rfl rfl 33 (by decide) (hts _ wd_167) (fun _ h9 => h9) rfl dX7_throneIf_65 ?_
        have hFc := va_free (wc := [(oc7 oM iM_thrown rM_tape iM_taped iM_size iM_at iM_end iM_token iM_whole iM_nameSize iM_fault iM_place iM_trouble rM_letters iM_failed iM_hasCourt rM_r rM_fresh rM_told rM_read rM_st rM_undone rM_kept iM_undos iM_images rM_fresher iM_fresherSize iM_scale iM_night rM_heardRow rM_cutRow iM_breaths iM_cutMany iM_allBreaths rM_trial rM_words iM_fewestBreaths iM_orderMany iM_orderSum iM_leastOrder rM_often iM_setMany iM_someOf iM_allOf iM_allWeight iM_enoughWeight iM_worthSum iM_firstRest iM_leastDrawn), (arI rM_r kM_r 287 fM_r), (arI rM_told kM_told 90 fM_told), (arI rM_trial kM_trial 90 f_1705)]) hD hS hA [0, 1, 2, 4] rfl
        refine va_calli (va_runV (As := [.ref rM_trial]) (rest := []) ⟨hx, hb, hml, hown, hts⟩ (tX7_throneBy l dC dI _ oM iM_thrown rM_tape iM_taped iM_size iM_at iM_end iM_token iM_whole iM_nameSize iM_fault iM_place iM_trouble rM_letters iM_failed iM_hasCourt rM_r fM_r kM_r rM_fresh rM_told fM_told kM_told rM_read rM_st rM_undone rM_kept iM_undos iM_images rM_fresher iM_fresherSize iM_scale iM_night rM_heardRow rM_cutRow iM_breaths iM_cutMany iM_allBreaths rM_trial rM_words iM_fewestBreaths iM_orderMany iM_orderSum iM_leastOrder rM_often iM_setMany iM_someOf iM_allOf iM_allWeight iM_enoughWeight iM_worthSum iM_firstRest iM_leastDrawn rM_trial f_1705 kM_trial (by first | omega | decide) (by first | omega | decide) (by first | omega | decide) (by first | omega | decide) (by first | omega | decide) (by first | omega | decide) (by first | omega | decide) (by first | omega | decide) (by first | omega | decide) (by first | omega | decide) (by assumption) (by assumption) (by assumption) (by assumption) (by first | omega | decide | assumption | (have q0 := kc_0; have q1 := kc_1; omega) | (intro h; exact absurd h (by decide)))) (cwV 1 hts (wd_V wd_979 wd_980 wd_981 wd_5 (wd_c wd_982)) rfl rfl rfl (by decide +kernel) ⟨Nat.le_of_ble_eq_true rfl, Nat.le_of_ble_eq_true rfl⟩) ⟨Pw.fb, va_recv hK hP (ci := 7) (q0 := 0) rfl rfl, fun U hU hW => Pw.to (hP.sub [0, 1, 2, 4] rfl) (hD.sub [0, 1, 2, 4] (by decide) rfl) (hK.sub [0, 1, 3] rfl) hE hS hFc hU hW⟩ rfl rfl hl.1 rfl (lv_room (Nat.le_of_ble_eq_true rfl)) dX7_throneIf_68 ⟨Nat.le_of_ble_eq_true rfl, Nat.le_of_ble_eq_true rfl⟩) hS (fun q _ h => hFc q h) hFc (fun r u t H locs ht hvm hw hB hz1 hk1 hS => ?_)
        have hru9 := hw.2
        have hw := hw.1
        obtain ⟨hP, hD, hK⟩ := Bw.go (ws' := [(arI rM_st kM_st 90 fM_st), (oc7 oM iM_thrown rM_tape iM_taped iM_size iM_at iM_end iM_token iM_whole iM_nameSize iM_fault iM_place iM_trouble rM_letters iM_failed iM_hasCourt rM_r rM_fresh rM_told rM_read rM_st rM_undone rM_kept iM_undos iM_images rM_fresher iM_fresherSize iM_scale iM_night rM_heardRow rM_cutRow iM_breaths iM_cutMany iM_allBreaths rM_trial rM_words iM_fewestBreaths iM_orderMany iM_orderSum iM_leastOrder rM_often iM_setMany iM_someOf iM_allOf iM_allWeight iM_enoughWeight iM_worthSum iM_firstRest iM_leastDrawn), (arI rM_r kM_r 287 fM_r), (arI rM_told kM_told 90 fM_told), (arI rM_trial kM_trial 90 f_1705)]) (tys' := [(kM_st, .int), (kM_r, .int), (kM_told, .int), (kM_trial, .int)]) hB rfl ht hvm hP hD hK [0, 1, 2, 4] [3] rfl (by decide) (by decide) [2] hk1 hFc rfl rfl rfl
        clear hz1 hk1 hvm ht hB
        obtain ⟨x_1709, rfl⟩ : ∃ z, z = r := ⟨_, rfl⟩
        have hG := hG.trans (lt_eq hru9.symm)
        exact W.iret hx hb hr (fun t ht hW => ⟨⟨_, (cI x_1709), rfl, ⟨⟨trivial, trivial⟩, (cI_of x_1709)⟩, ⟨f_1705, (cI_tup hG), Bw.to (hP.sub [1, 2, 3, 0, 4] rfl) (hD.sub [1, 2, 3, 0, 4] (by decide) rfl) (hK.sub [1, 2, 0, 3] rfl) ht hW⟩⟩, hS.F ht⟩) hS.2.2 dX7_throneIf_71
      · skip
        have hG := hG.trans (if_neg c_1708)
        have gc_1708 := ti_nle c_1708 rfl rfl
        refine lv_aload_n hx hb dX7_throneIf_27 rfl (lv_at hl 1 rfl) ?_
        refine va_get (D := (dC, dI)) (ci := 7) (v := .ref rM_r) (C := RX7) (T := TX7) (N := 48) hx hb hts inX7 hown hK hP 0 rfl rfl 15 (by decide) (hts _ wd_155) (fun _ h9 => h9) rfl dX7_throneIf_28 ?_
        refine lv_bipush (v := 9) hx hb dX7_throneIf_31 (by decide) ?_
        refine lv_iload_n hx hb dX7_throneIf_33 rfl (lv_at hl 0 rfl) ?_
        refine lv_iadd hx hb dX7_throneIf_34 ?_
        refine lv_topi (fun x_1710 ex_1710 => ?_)
        have hG := hG.trans (lt_eq ex_1710)
        have vx_1710 : x_1710.toInt = z_1704.toInt + 9 := by have q := ti_add ex_1710 kc_9 rfl (by omega) (by omega); omega
        refine va_iald hx hb hK hP 1 0 rfl rfl (ti_in vx_1710 (by omega) (by omega)) dX7_throneIf_35 ?_
        refine lv_topi (fun x_1711 ex_1711 => ?_)
        have hG := hG.trans (lt_eq ex_1711)
        have kx_1711 : (fM_r x_1710.toNatClampNeg).toInt = x_1711.toInt := by rw [ex_1711]
        have cx_1711 : (fM_r (9 + z_1704.toNatClampNeg)).toInt = x_1711.toInt := by rw [show 9 + z_1704.toNatClampNeg = x_1710.toNatClampNeg from by have q9 := ti_cl (x := x_1710) vx_1710 (by omega); have q_z_1704 := ti_cl (x := z_1704) rfl (by omega); omega]; exact kx_1711
        have sx_1711 := r_R.kind x_1710.toNatClampNeg (by have q9 := ti_cl (x := x_1710) vx_1710 (by omega); omega) (by have q9 := ti_cl (x := x_1710) vx_1710 (by omega); omega)
        refine lv_if_ne (tgt := 57) hx hb dX7_throneIf_36 (by decide) (fun c_1712 => ?_) (fun c_1712 => ?_)
        · skip
          have hG := hG.trans (if_neg c_1712)
          have gc_1712 := ti_ne c_1712 rfl kc_0
          obtain ⟨x_1713, ex_1713⟩ : ∃ z : Int32, z = z_1704 + Int32.ofInt 1 := ⟨_, rfl⟩
          have hG := hG.trans (lt_eq ex_1713)
          have vx_1713 : x_1713.toInt = z_1704.toInt + 1 := by have q := ti_add (y := 1) ex_1713 rfl kc_1 (by omega) (by omega); omega
          refine lv_iinc (v := x_1713) (lv' := [(3, .int x_1713), (0, .ref oM), (1, .int p0), (2, .int p1)]) hx hb dX7_throneIf_57 hl (k := 0) rfl ex_1713.symm (by decide) rfl (fun ls hl => ?_)
          refine lv_goto (tgt := 17) hx hb dX7_throneIf_60 (by decide) ?_
          exact ih_n_1706 x_1713 f_1705 _ _ _  (by first | omega | decide | assumption) (by first | omega | decide | assumption) (by omega) hG (hP.sub [0, 1, 2, 3, 4] rfl) (hD.sub [0, 1, 2, 3, 4] (by decide) rfl) hS (lv_sub hl [0, 1, 2, 3] rfl)
        · skip
          have hG := hG.trans (if_pos c_1712)
          have gc_1712 := ti_eq c_1712 rfl kc_0
          refine lv_iload_n hx hb dX7_throneIf_39 rfl (lv_at hl 2 rfl) ?_
          refine lv_iload_n hx hb dX7_throneIf_40 rfl (lv_at hl 0 rfl) ?_
          have hFc : ∀ q, va_A [] _ q → A q := fun q h => hA q (Nat.le_trans hS.1 (va_nilA h))
          refine va_calli (va_runS (As := [.int p0, .int z_1704]) (rest := []) ⟨hx, hb, hml, hown, hts⟩ (tX7_hasBit l dC dI _ p0 z_1704 ) (va_cwS 2 hts (wd_S wd_968 wd_969 wd_5 (wd_c wd_970)) rfl rfl rfl (by decide +kernel) ⟨Nat.le_of_ble_eq_true rfl, Nat.le_of_ble_eq_true rfl⟩) ⟨Pw.fb, fun U hU hW => Pn.to hK hE hS hA hU hW⟩ rfl rfl hl.1 rfl (lv_room (Nat.le_of_ble_eq_true rfl)) dX7_throneIf_41 ⟨Nat.le_of_ble_eq_true rfl, Nat.le_of_ble_eq_true rfl⟩) hS (fun q _ h => hFc q h) hFc (fun r u t H locs ht hvm hw hB hz1 hk1 hS => ?_)
          obtain ⟨hP, hD, hK⟩ := Bw.same ht hvm hP hD hK hk1 hFc
          clear hz1 hk1 hvm ht hB
          have hq9 := hw.2
          have hw := hw.1
          obtain ⟨x_1714, rfl⟩ : ∃ z, z = r := ⟨_, rfl⟩
          have hq_x_1714 := hq9
          have hG := hG.trans (lt_eq hq_x_1714.symm)
          have bx_1714 := hw.1
          have dx_1714 := bz_ti bx_1714
          refine lv_if_ne (tgt := 57) hx hb dX7_throneIf_44 (by decide) (fun c_1715 => ?_) (fun c_1715 => ?_)
          · skip
            have hG := hG.trans (if_neg c_1715)
            have gc_1715 := ti_ne c_1715 rfl kc_0
            obtain ⟨x_1716, ex_1716⟩ : ∃ z : Int32, z = z_1704 + Int32.ofInt 1 := ⟨_, rfl⟩
            have hG := hG.trans (lt_eq ex_1716)
            have vx_1716 : x_1716.toInt = z_1704.toInt + 1 := by have q := ti_add (y := 1) ex_1716 rfl kc_1 (by omega) (by omega); omega
            refine lv_iinc (v := x_1716) (lv' := [(3, .int x_1716), (0, .ref oM), (1, .int p0), (2, .int p1)]) hx hb dX7_throneIf_57 hl (k := 0) rfl ex_1716.symm (by decide) rfl (fun ls hl => ?_)
            refine lv_goto (tgt := 17) hx hb dX7_throneIf_60 (by decide) ?_
            exact ih_n_1706 x_1716 f_1705 _ _ _  (by first | omega | decide | assumption) (by first | omega | decide | assumption) (by omega) hG (hP.sub [0, 1, 2, 3, 4] rfl) (hD.sub [0, 1, 2, 3, 4] (by decide) rfl) hS (lv_sub hl [0, 1, 2, 3] rfl)
          · skip
            have hG := hG.trans (if_pos c_1715)
            have gc_1715 := ti_eq c_1715 rfl kc_0
            refine lv_aload_n hx hb dX7_throneIf_47 rfl (lv_at hl 1 rfl) ?_
            refine va_get (D := (dC, dI)) (ci := 7) (v := .ref rM_trial) (C := RX7) (T := TX7) (N := 48) hx hb hts inX7 hown hK hP 0 rfl rfl 33 (by decide) (hts _ wd_167) (fun _ h9 => h9) rfl dX7_throneIf_48 ?_
            refine lv_bipush (v := 72) hx hb dX7_throneIf_51 (by decide) ?_
            refine lv_iload_n hx hb dX7_throneIf_53 rfl (lv_at hl 0 rfl) ?_
            refine lv_iadd hx hb dX7_throneIf_54 ?_
            refine lv_topi (fun x_1717 ex_1717 => ?_)
            have hG := hG.trans (lt_eq ex_1717)
            have vx_1717 : x_1717.toInt = z_1704.toInt + 72 := by have q := ti_add ex_1717 kc_72 rfl (by omega) (by omega); omega
            refine lv_iload_n hx hb dX7_throneIf_55 rfl (lv_at hl 3 rfl) ?_
            refine va_iast hx hb hK hP hD hS 4 3 rfl rfl (ti_in vx_1717 (by omega) (by omega)) dX7_throneIf_56 (fun H locs hP hD hS => ?_)
            obtain ⟨f_1718, ef_1718⟩ : ∃ g : Nat → Int32, g = upd f_1705 x_1717.toNatClampNeg p1 := ⟨_, rfl⟩
            rw [← ef_1718] at hP hD
            have hG := hG.trans (lt_eq ef_1718)
            obtain ⟨hP, hD⟩ := wl2 (ws' := [(oc7 oM iM_thrown rM_tape iM_taped iM_size iM_at iM_end iM_token iM_whole iM_nameSize iM_fault iM_place iM_trouble rM_letters iM_failed iM_hasCourt rM_r rM_fresh rM_told rM_read rM_st rM_undone rM_kept iM_undos iM_images rM_fresher iM_fresherSize iM_scale iM_night rM_heardRow rM_cutRow iM_breaths iM_cutMany iM_allBreaths rM_trial rM_words iM_fewestBreaths iM_orderMany iM_orderSum iM_leastOrder rM_often iM_setMany iM_someOf iM_allOf iM_allWeight iM_enoughWeight iM_worthSum iM_firstRest iM_leastDrawn), (arI rM_r kM_r 287 fM_r), (arI rM_told kM_told 90 fM_told), (arI rM_st kM_st 90 fM_st), (arI rM_trial kM_trial 90 f_1718)]) hP hD rfl
            have r_f_1718 : RowOk fM_r f_1718 := RowOk.hi r_R hi1_n_1706 ef_1718 (by have q9 := ti_cl (x := x_1717) vx_1717 (by omega); omega)
            obtain ⟨x_1719, ex_1719⟩ : ∃ z : Int32, z = z_1704 + Int32.ofInt 1 := ⟨_, rfl⟩
            have hG := hG.trans (lt_eq ex_1719)
            have vx_1719 : x_1719.toInt = z_1704.toInt + 1 := by have q := ti_add (y := 1) ex_1719 rfl kc_1 (by omega) (by omega); omega
            refine lv_iinc (v := x_1719) (lv' := [(3, .int x_1719), (0, .ref oM), (1, .int p0), (2, .int p1)]) hx hb dX7_throneIf_57 hl (k := 0) rfl ex_1719.symm (by decide) rfl (fun ls hl => ?_)
            refine lv_goto (tgt := 17) hx hb dX7_throneIf_60 (by decide) ?_
            exact ih_n_1706 x_1719 f_1718 _ _ _  (by first | omega | decide | assumption) (by first | omega | decide | assumption) (by omega) hG (hP.sub [0, 1, 2, 3, 4] rfl) (hD.sub [0, 1, 2, 3, 4] (by decide) rfl) hS (lv_sub hl [0, 1, 2, 3] rfl)
  exact key_n_1706 (((18 - (0 : Int32).toInt).toNat) + 1) 0 f_1703 _ _ _  (by first | omega | decide | assumption | (have q0 := kc_0; have q1 := kc_1; omega)) (by first | omega | decide | assumption | (have q0 := kc_0; have q1 := kc_1; omega)) (by omega) hG hP hD hS hl
set_option maxHeartbeats 4000000 in
set_option maxRecDepth 100000 in
theorem tX7_doesProve (l : Launch) (dC : Nat → ClassId) (dI : Nat → Nat → Nat) (sz : Nat) (oM : Nat) (iM_thrown : Int32) (rM_tape : Nat) (iM_taped : Int32) (iM_size : Int32) (iM_at : Int32) (iM_end : Int32) (iM_token : Int32) (iM_whole : Int32) (iM_nameSize : Int32) (iM_fault : Int32) (iM_place : Int32) (iM_trouble : Int32) (rM_letters : Nat) (iM_failed : Int32) (iM_hasCourt : Int32) (rM_r : Nat) (fM_r : Nat → Int32) (kM_r : ClassId) (rM_fresh : Nat) (rM_told : Nat) (fM_told : Nat → Int32) (kM_told : ClassId) (rM_read : Nat) (rM_st : Nat) (fM_st : Nat → Int32) (kM_st : ClassId) (rM_undone : Nat) (rM_kept : Nat) (iM_undos : Int32) (iM_images : Int32) (rM_fresher : Nat) (iM_fresherSize : Int32) (iM_scale : Int32) (iM_night : Int32) (rM_heardRow : Nat) (rM_cutRow : Nat) (iM_breaths : Int32) (iM_cutMany : Int32) (iM_allBreaths : Int32) (rM_trial : Nat) (fM_trial : Nat → Int32) (kM_trial : ClassId) (rM_words : Nat) (iM_fewestBreaths : Int32) (iM_orderMany : Int32) (iM_orderSum : Int32) (iM_leastOrder : Int32) (rM_often : Nat) (iM_setMany : Int32) (iM_someOf : Int32) (iM_allOf : Int32) (iM_allWeight : Int64) (iM_enoughWeight : Int64) (iM_worthSum : Int64) (iM_firstRest : Int32) (iM_leastDrawn : Int32) (p0 : Int32) (p1 : Int32) (p2 : Int32) (b_iM_taped : 0 ≤ iM_taped.toInt ∧ iM_taped.toInt ≤ 900) (b_iM_size : 0 ≤ iM_size.toInt ∧ iM_size.toInt ≤ 900) (b_iM_end : 0 ≤ iM_end.toInt ∧ iM_end.toInt ≤ 900) (b_iM_failed : 0 ≤ iM_failed.toInt ∧ iM_failed.toInt ≤ 1) (b_iM_hasCourt : 0 ≤ iM_hasCourt.toInt ∧ iM_hasCourt.toInt ≤ 1) (b_iM_undos : 0 ≤ iM_undos.toInt ∧ iM_undos.toInt ≤ 16) (b_iM_images : 0 ≤ iM_images.toInt ∧ iM_images.toInt ≤ 3) (b_iM_scale : 1 ≤ iM_scale.toInt ∧ iM_scale.toInt ≤ 1296) (b_iM_breaths : 0 ≤ iM_breaths.toInt ∧ iM_breaths.toInt ≤ 399) (b_iM_cutMany : 0 ≤ iM_cutMany.toInt ∧ iM_cutMany.toInt ≤ 399) (r_R : ROk fM_r) (r_C : iM_hasCourt.toInt ≤ 0 ∨ (1 ≤ (fM_r 1).toInt ∧ 0 ≤ (fM_r 6).toInt ∧ (fM_r 6).toInt < (fM_r 1).toInt)) (r_st : RowOk fM_r fM_st) (r_told : RowOk fM_r fM_told) (r_wst : WorOk fM_st) (hth : 0 ≤ (fM_r 6).toInt ∧ (fM_r 6).toInt < (fM_r 1).toInt) : Met l yX7_doesProve (Cond.code yX7_doesProve cX7_doesProve 4 (some .boolean) :: wG) ({ frames := 23, cells := 0, slots := 0, locals := 608 }) (va_Pc [.ref oM, .int p0, .int p1, .int p2] (Pw dC dI sz [(oc7 oM iM_thrown rM_tape iM_taped iM_size iM_at iM_end iM_token iM_whole iM_nameSize iM_fault iM_place iM_trouble rM_letters iM_failed iM_hasCourt rM_r rM_fresh rM_told rM_read rM_st rM_undone rM_kept iM_undos iM_images rM_fresher iM_fresherSize iM_scale iM_night rM_heardRow rM_cutRow iM_breaths iM_cutMany iM_allBreaths rM_trial rM_words iM_fewestBreaths iM_orderMany iM_orderSum iM_leastOrder rM_often iM_setMany iM_someOf iM_allOf iM_allWeight iM_enoughWeight iM_worthSum iM_firstRest iM_leastDrawn), (arI rM_r kM_r 287 fM_r), (arI rM_told kM_told 90 fM_told), (arI rM_st kM_st 90 fM_st), (arI rM_trial kM_trial 90 fM_trial)] [(kM_r, .int), (kM_told, .int), (kM_st, .int), (kM_trial, .int)])) (va_Qi (fun (r : Int32) (u : Nat) => ((r = 0 ∨ r = 1) ∧ True) ∧ r = Int32.ofNat u) (fun (u : Nat) (t : State) => ∃ (nfM_trial : Nat → Int32), (PX7_doesProve fM_r fM_told fM_st iM_scale iM_night fM_trial p0 p1 p2 = (Int32.ofNat u, nfM_trial)) ∧ Bw dC dI (va_A [(oc7 oM iM_thrown rM_tape iM_taped iM_size iM_at iM_end iM_token iM_whole iM_nameSize iM_fault iM_place iM_trouble rM_letters iM_failed iM_hasCourt rM_r rM_fresh rM_told rM_read rM_st rM_undone rM_kept iM_undos iM_images rM_fresher iM_fresherSize iM_scale iM_night rM_heardRow rM_cutRow iM_breaths iM_cutMany iM_allBreaths rM_trial rM_words iM_fewestBreaths iM_orderMany iM_orderSum iM_leastOrder rM_often iM_setMany iM_someOf iM_allOf iM_allWeight iM_enoughWeight iM_worthSum iM_firstRest iM_leastDrawn), (arI rM_r kM_r 287 fM_r), (arI rM_told kM_told 90 fM_told), (arI rM_st kM_st 90 fM_st), (arI rM_trial kM_trial 90 fM_trial)] sz) [(oc7 oM iM_thrown rM_tape iM_taped iM_size iM_at iM_end iM_token iM_whole iM_nameSize iM_fault iM_place iM_trouble rM_letters iM_failed iM_hasCourt rM_r rM_fresh rM_told rM_read rM_st rM_undone rM_kept iM_undos iM_images rM_fresher iM_fresherSize iM_scale iM_night rM_heardRow rM_cutRow iM_breaths iM_cutMany iM_allBreaths rM_trial rM_words iM_fewestBreaths iM_orderMany iM_orderSum iM_leastOrder rM_often iM_setMany iM_someOf iM_allOf iM_allWeight iM_enoughWeight iM_worthSum iM_firstRest iM_leastDrawn), (arI rM_r kM_r 287 fM_r), (arI rM_told kM_told 90 fM_told), (arI rM_st kM_st 90 fM_st), (arI rM_trial kM_trial 90 nfM_trial)] [(kM_r, .int), (kM_told, .int), (kM_st, .int), (kM_trial, .int)] t) (va_A [(oc7 oM iM_thrown rM_tape iM_taped iM_size iM_at iM_end iM_token iM_whole iM_nameSize iM_fault iM_place iM_trouble rM_letters iM_failed iM_hasCourt rM_r rM_fresh rM_told rM_read rM_st rM_undone rM_kept iM_undos iM_images rM_fresher iM_fresherSize iM_scale iM_night rM_heardRow rM_cutRow iM_breaths iM_cutMany iM_allBreaths rM_trial rM_words iM_fewestBreaths iM_orderMany iM_orderSum iM_leastOrder rM_often iM_setMany iM_someOf iM_allOf iM_allWeight iM_enoughWeight iM_worthSum iM_firstRest iM_leastDrawn), (arI rM_r kM_r 287 fM_r), (arI rM_told kM_told 90 fM_told), (arI rM_st kM_st 90 fM_st), (arI rM_trial kM_trial 90 fM_trial)] sz)) 0 0 (va_A [(oc7 oM iM_thrown rM_tape iM_taped iM_size iM_at iM_end iM_token iM_whole iM_nameSize iM_fault iM_place iM_trouble rM_letters iM_failed iM_hasCourt rM_r rM_fresh rM_told rM_read rM_st rM_undone rM_kept iM_undos iM_images rM_fresher iM_fresherSize iM_scale iM_night rM_heardRow rM_cutRow iM_breaths iM_cutMany iM_allBreaths rM_trial rM_words iM_fewestBreaths iM_orderMany iM_orderSum iM_leastOrder rM_often iM_setMany iM_someOf iM_allOf iM_allWeight iM_enoughWeight iM_worthSum iM_firstRest iM_leastDrawn), (arI rM_r kM_r 287 fM_r), (arI rM_told kM_told 90 fM_told), (arI rM_st kM_st 90 fM_st), (arI rM_trial kM_trial 90 fM_trial)] sz) := by
  refine Met.ofW (cc := cX7_doesProve) (maxL := 4) (ret := (some .boolean)) (by decide) rfl ?_
  intro p e s m args below meth c s₁ B hml hv
  obtain ⟨rfl, hsz, hP, hK, hD0, hE⟩ := hv
  have hx := B.exec
  have hb := B.bytes
  have hr := B.returns
  have hts : ∀ w ∈ wG, w.before ([.ref oM, .int p0, .int p1, .int p2] : List Value).toArray s = true := fun w h => atoms_spec (ws := Cond.code yX7_doesProve cX7_doesProve 4 (some .boolean) :: wG) B.pre w (List.mem_cons_of_mem _ h)
  have hown : s.vm.findClass RX7 = some m.cls := findClass_of_methodNamed B.named
  have hlocks := B.notSynchronized
  subst hsz
  have hD := hD0.self (sz := s.heap.size)
  generalize hAe : va_A [(oc7 oM iM_thrown rM_tape iM_taped iM_size iM_at iM_end iM_token iM_whole iM_nameSize iM_fault iM_place iM_trouble rM_letters iM_failed iM_hasCourt rM_r rM_fresh rM_told rM_read rM_st rM_undone rM_kept iM_undos iM_images rM_fresher iM_fresherSize iM_scale iM_night rM_heardRow rM_cutRow iM_breaths iM_cutMany iM_allBreaths rM_trial rM_words iM_fewestBreaths iM_orderMany iM_orderSum iM_leastOrder rM_often iM_setMany iM_someOf iM_allOf iM_allWeight iM_enoughWeight iM_worthSum iM_firstRest iM_leastDrawn), (arI rM_r kM_r 287 fM_r), (arI rM_told kM_told 90 fM_told), (arI rM_st kM_st 90 fM_st), (arI rM_trial kM_trial 90 fM_trial)] s.heap.size = A at hD hE ⊢
  have hA : ∀ q : Nat, s.heap.size ≤ q → A q := fun q h => by rw [← hAe]; exact Or.inr h
  have hS : va_S A s.heap s.heap [] := va_S.rf
  have hl := lv_entry ([.ref oM, .int p0, .int p1, .int p2]) (n := 4) (Nat.le_of_ble_eq_true rfl)
  rw [lg_entry_eq]
  generalize (lg_sl ([.ref oM, .int p0, .int p1, .int p2]) ++ List.replicate (4 - (lg_sl ([.ref oM, .int p0, .int p1, .int p2])).length) Slot.unset).toArray = ls at hl ⊢
  have hl : lv_has ls 4 [(0, .ref oM), (1, .int p0), (2, .int p1), (3, .int p2)] := hl
  have hG := PX7_doesProve_eq fM_r fM_told fM_st iM_scale iM_night fM_trial p0 p1 p2
  have s_slips := r_R.slips
  have s_nodes := r_R.nodes
  have s_uns := r_R.uns
  refine lv_iload_n hx hb dX7_doesProve_0 rfl (lv_at hl 2 rfl) ?_
  refine lv_if_ne (tgt := 25) hx hb dX7_doesProve_1 (by decide) (fun c_1735 => ?_) (fun c_1735 => ?_)
  · skip
    have hG := hG.trans (if_neg c_1735)
    have gc_1735 := ti_ne c_1735 rfl kc_0
    refine lv_iload_n hx hb dX7_doesProve_25 rfl (lv_at hl 2 rfl) ?_
    refine lv_iconst (v := 1) hx hb dX7_doesProve_26 (by decide) ?_
    refine lv_icmp_ne (tgt := 52) hx hb dX7_doesProve_27 (by decide) (fun c_1736 => ?_) (fun c_1736 => ?_)
    · skip
      have hG := hG.trans (if_neg c_1736)
      have gc_1736 := ti_ne c_1736 rfl kc_1
      refine lv_aload_n hx hb dX7_doesProve_52 rfl (lv_at hl 0 rfl) ?_
      refine lv_iload_n hx hb dX7_doesProve_53 rfl (lv_at hl 1 rfl) ?_
      refine lv_iconst (v := 0) hx hb dX7_doesProve_54 (by decide) ?_
      have hFc := va_free (wc := [(oc7 oM iM_thrown rM_tape iM_taped iM_size iM_at iM_end iM_token iM_whole iM_nameSize iM_fault iM_place iM_trouble rM_letters iM_failed iM_hasCourt rM_r rM_fresh rM_told rM_read rM_st rM_undone rM_kept iM_undos iM_images rM_fresher iM_fresherSize iM_scale iM_night rM_heardRow rM_cutRow iM_breaths iM_cutMany iM_allBreaths rM_trial rM_words iM_fewestBreaths iM_orderMany iM_orderSum iM_leastOrder rM_often iM_setMany iM_someOf iM_allOf iM_allWeight iM_enoughWeight iM_worthSum iM_firstRest iM_leastDrawn), (arI rM_r kM_r 287 fM_r), (arI rM_told kM_told 90 fM_told), (arI rM_st kM_st 90 fM_st), (arI rM_trial kM_trial 90 fM_trial)]) hD hS hA [0, 1, 2, 3, 4] rfl
      refine va_calli (va_runV (As := [.int p0, .int 0]) (rest := []) ⟨hx, hb, hml, hown, hts⟩ (tX7_throneIf l dC dI _ oM iM_thrown rM_tape iM_taped iM_size iM_at iM_end iM_token iM_whole iM_nameSize iM_fault iM_place iM_trouble rM_letters iM_failed iM_hasCourt rM_r fM_r kM_r rM_fresh rM_told fM_told kM_told rM_read rM_st fM_st kM_st rM_undone rM_kept iM_undos iM_images rM_fresher iM_fresherSize iM_scale iM_night rM_heardRow rM_cutRow iM_breaths iM_cutMany iM_allBreaths rM_trial fM_trial kM_trial rM_words iM_fewestBreaths iM_orderMany iM_orderSum iM_leastOrder rM_often iM_setMany iM_someOf iM_allOf iM_allWeight iM_enoughWeight iM_worthSum iM_firstRest iM_leastDrawn p0 0 (by first | omega | decide) (by first | omega | decide) (by first | omega | decide) (by first | omega | decide) (by first | omega | decide) (by first | omega | decide) (by first | omega | decide) (by first | omega | decide) (by first | omega | decide) (by first | omega | decide) (by assumption) (by assumption) (by assumption) (by assumption) (by assumption) (by first | omega | decide | assumption | (have q0 := kc_0; have q1 := kc_1; omega) | (intro h; exact absurd h (by decide)))) (cwV 2 hts (wd_V wd_975 wd_976 wd_977 wd_5 (wd_c wd_978)) rfl rfl rfl (by decide +kernel) ⟨Nat.le_of_ble_eq_true rfl, Nat.le_of_ble_eq_true rfl⟩) ⟨Pw.fb, va_recv hK hP (ci := 7) (q0 := 0) rfl rfl, fun U hU hW => Pw.to (hP.sub [0, 1, 2, 3, 4] rfl) (hD.sub [0, 1, 2, 3, 4] (by decide) rfl) (hK.sub [0, 1, 2, 3] rfl) hE hS hFc hU hW⟩ rfl rfl hl.1 rfl (lv_room (Nat.le_of_ble_eq_true rfl)) dX7_doesProve_55 ⟨Nat.le_of_ble_eq_true rfl, Nat.le_of_ble_eq_true rfl⟩) hS (fun q _ h => hFc q h) hFc (fun r u t H locs ht hvm hw hB hz1 hk1 hS => ?_)
      have hru9 := hw.2
      have hw := hw.1
      obtain ⟨f_1737, e_f_1737_0, hB⟩ := hB
      obtain ⟨hP, hD, hK⟩ := Bw.go (ws' := [(oc7 oM iM_thrown rM_tape iM_taped iM_size iM_at iM_end iM_token iM_whole iM_nameSize iM_fault iM_place iM_trouble rM_letters iM_failed iM_hasCourt rM_r rM_fresh rM_told rM_read rM_st rM_undone rM_kept iM_undos iM_images rM_fresher iM_fresherSize iM_scale iM_night rM_heardRow rM_cutRow iM_breaths iM_cutMany iM_allBreaths rM_trial rM_words iM_fewestBreaths iM_orderMany iM_orderSum iM_leastOrder rM_often iM_setMany iM_someOf iM_allOf iM_allWeight iM_enoughWeight iM_worthSum iM_firstRest iM_leastDrawn), (arI rM_r kM_r 287 fM_r), (arI rM_told kM_told 90 fM_told), (arI rM_st kM_st 90 fM_st), (arI rM_trial kM_trial 90 f_1737)]) (tys' := [(kM_r, .int), (kM_told, .int), (kM_st, .int), (kM_trial, .int)]) hB rfl ht hvm hP hD hK [0, 1, 2, 3, 4] [] rfl (by decide) (by decide) [] hk1 hFc rfl rfl rfl
      clear hz1 hk1 hvm ht hB
      rw [← hru9] at e_f_1737_0
      obtain ⟨x_1738, rfl⟩ : ∃ z, z = r := ⟨_, rfl⟩
      have hG := hG.trans (un2_eq e_f_1737_0)
      refine lv_aload_n hx hb dX7_doesProve_58 rfl (lv_at hl 0 rfl) ?_
      refine lv_iload_n hx hb dX7_doesProve_59 rfl (lv_at hl 1 rfl) ?_
      refine lv_bipush (v := 99) hx hb dX7_doesProve_60 (by decide) ?_
      have hFc := va_free (wc := [(oc7 oM iM_thrown rM_tape iM_taped iM_size iM_at iM_end iM_token iM_whole iM_nameSize iM_fault iM_place iM_trouble rM_letters iM_failed iM_hasCourt rM_r rM_fresh rM_told rM_read rM_st rM_undone rM_kept iM_undos iM_images rM_fresher iM_fresherSize iM_scale iM_night rM_heardRow rM_cutRow iM_breaths iM_cutMany iM_allBreaths rM_trial rM_words iM_fewestBreaths iM_orderMany iM_orderSum iM_leastOrder rM_often iM_setMany iM_someOf iM_allOf iM_allWeight iM_enoughWeight iM_worthSum iM_firstRest iM_leastDrawn), (arI rM_r kM_r 287 fM_r), (arI rM_told kM_told 90 fM_told), (arI rM_st kM_st 90 fM_st), (arI rM_trial kM_trial 90 f_1737)]) hD hS hA [0, 1, 2, 3, 4] rfl
      refine va_calli (va_runV (As := [.int p0, .int 99]) (rest := [.int x_1738]) ⟨hx, hb, hml, hown, hts⟩ (tX7_throneIf l dC dI _ oM iM_thrown rM_tape iM_taped iM_size iM_at iM_end iM_token iM_whole iM_nameSize iM_fault iM_place iM_trouble rM_letters iM_failed iM_hasCourt rM_r fM_r kM_r rM_fresh rM_told fM_told kM_told rM_read rM_st fM_st kM_st rM_undone rM_kept iM_undos iM_images rM_fresher iM_fresherSize iM_scale iM_night rM_heardRow rM_cutRow iM_breaths iM_cutMany iM_allBreaths rM_trial f_1737 kM_trial rM_words iM_fewestBreaths iM_orderMany iM_orderSum iM_leastOrder rM_often iM_setMany iM_someOf iM_allOf iM_allWeight iM_enoughWeight iM_worthSum iM_firstRest iM_leastDrawn p0 99 (by first | omega | decide) (by first | omega | decide) (by first | omega | decide) (by first | omega | decide) (by first | omega | decide) (by first | omega | decide) (by first | omega | decide) (by first | omega | decide) (by first | omega | decide) (by first | omega | decide) (by assumption) (by assumption) (by assumption) (by assumption) (by assumption) (by first | omega | decide | assumption | (have q0 := kc_0; have q1 := kc_1; have q2 := kc_99; omega) | (intro h; exact absurd h (by decide)))) (cwV 2 hts (wd_V wd_975 wd_976 wd_977 wd_5 (wd_c wd_978)) rfl rfl rfl (by decide +kernel) ⟨Nat.le_of_ble_eq_true rfl, Nat.le_of_ble_eq_true rfl⟩) ⟨Pw.fb, va_recv hK hP (ci := 7) (q0 := 0) rfl rfl, fun U hU hW => Pw.to (hP.sub [0, 1, 2, 3, 4] rfl) (hD.sub [0, 1, 2, 3, 4] (by decide) rfl) (hK.sub [0, 1, 2, 3] rfl) hE hS hFc hU hW⟩ rfl rfl hl.1 rfl (lv_room (Nat.le_of_ble_eq_true rfl)) dX7_doesProve_62 ⟨Nat.le_of_ble_eq_true rfl, Nat.le_of_ble_eq_true rfl⟩) hS (fun q _ h => hFc q h) hFc (fun r u t H locs ht hvm hw hB hz1 hk1 hS => ?_)
      have hru9 := hw.2
      have hw := hw.1
      obtain ⟨f_1739, e_f_1739_0, hB⟩ := hB
      obtain ⟨hP, hD, hK⟩ := Bw.go (ws' := [(oc7 oM iM_thrown rM_tape iM_taped iM_size iM_at iM_end iM_token iM_whole iM_nameSize iM_fault iM_place iM_trouble rM_letters iM_failed iM_hasCourt rM_r rM_fresh rM_told rM_read rM_st rM_undone rM_kept iM_undos iM_images rM_fresher iM_fresherSize iM_scale iM_night rM_heardRow rM_cutRow iM_breaths iM_cutMany iM_allBreaths rM_trial rM_words iM_fewestBreaths iM_orderMany iM_orderSum iM_leastOrder rM_often iM_setMany iM_someOf iM_allOf iM_allWeight iM_enoughWeight iM_worthSum iM_firstRest iM_leastDrawn), (arI rM_r kM_r 287 fM_r), (arI rM_told kM_told 90 fM_told), (arI rM_st kM_st 90 fM_st), (arI rM_trial kM_trial 90 f_1739)]) (tys' := [(kM_r, .int), (kM_told, .int), (kM_st, .int), (kM_trial, .int)]) hB rfl ht hvm hP hD hK [0, 1, 2, 3, 4] [] rfl (by decide) (by decide) [] hk1 hFc rfl rfl rfl
      clear hz1 hk1 hvm ht hB
      rw [← hru9] at e_f_1739_0
      obtain ⟨x_1740, rfl⟩ : ∃ z, z = r := ⟨_, rfl⟩
      have hG := hG.trans (un2_eq e_f_1739_0)
      refine lv_icmp_ne (tgt := 72) hx hb dX7_doesProve_65 (by decide) (fun c_1741 => ?_) (fun c_1741 => ?_)
      · skip
        have hG := hG.trans (if_neg c_1741)
        have gc_1741 := ti_ne c_1741 rfl rfl
        refine lv_iconst (v := 0) hx hb dX7_doesProve_72 (by decide) ?_
        exact W.zret (v := 0) hx hb hr rfl (fun t ht hW => ⟨⟨_, (cI 0), rfl, ⟨⟨Or.inl rfl, trivial⟩, (cI_of 0)⟩, ⟨f_1739, (cI_tup hG), Bw.to (hP.sub [0, 1, 2, 3, 4] rfl) (hD.sub [0, 1, 2, 3, 4] (by decide) rfl) (hK.sub [0, 1, 2, 3] rfl) ht hW⟩⟩, hS.F ht⟩) hS.2.2 dX7_doesProve_73
      · skip
        have hG := hG.trans (if_pos c_1741)
        have gc_1741 := ti_eq c_1741 rfl rfl
        refine lv_iconst (v := 1) hx hb dX7_doesProve_68 (by decide) ?_
        refine lv_goto (tgt := 73) hx hb dX7_doesProve_69 (by decide) ?_
        exact W.zret (v := 1) hx hb hr rfl (fun t ht hW => ⟨⟨_, (cI 1), rfl, ⟨⟨Or.inr rfl, trivial⟩, (cI_of 1)⟩, ⟨f_1739, (cI_tup hG), Bw.to (hP.sub [0, 1, 2, 3, 4] rfl) (hD.sub [0, 1, 2, 3, 4] (by decide) rfl) (hK.sub [0, 1, 2, 3] rfl) ht hW⟩⟩, hS.F ht⟩) hS.2.2 dX7_doesProve_73
    · skip
      have hG := hG.trans (if_pos c_1736)
      have gc_1736 := ti_eq c_1736 rfl kc_1
      refine lv_aload_n hx hb dX7_doesProve_30 rfl (lv_at hl 0 rfl) ?_
      refine lv_iload_n hx hb dX7_doesProve_31 rfl (lv_at hl 1 rfl) ?_
      refine lv_bipush (v := 99) hx hb dX7_doesProve_32 (by decide) ?_
      have hFc := va_free (wc := [(oc7 oM iM_thrown rM_tape iM_taped iM_size iM_at iM_end iM_token iM_whole iM_nameSize iM_fault iM_place iM_trouble rM_letters iM_failed iM_hasCourt rM_r rM_fresh rM_told rM_read rM_st rM_undone rM_kept iM_undos iM_images rM_fresher iM_fresherSize iM_scale iM_night rM_heardRow rM_cutRow iM_breaths iM_cutMany iM_allBreaths rM_trial rM_words iM_fewestBreaths iM_orderMany iM_orderSum iM_leastOrder rM_often iM_setMany iM_someOf iM_allOf iM_allWeight iM_enoughWeight iM_worthSum iM_firstRest iM_leastDrawn), (arI rM_r kM_r 287 fM_r), (arI rM_told kM_told 90 fM_told), (arI rM_st kM_st 90 fM_st), (arI rM_trial kM_trial 90 fM_trial)]) hD hS hA [0, 1, 2, 3, 4] rfl
      refine va_calli (va_runV (As := [.int p0, .int 99]) (rest := []) ⟨hx, hb, hml, hown, hts⟩ (tX7_throneIf l dC dI _ oM iM_thrown rM_tape iM_taped iM_size iM_at iM_end iM_token iM_whole iM_nameSize iM_fault iM_place iM_trouble rM_letters iM_failed iM_hasCourt rM_r fM_r kM_r rM_fresh rM_told fM_told kM_told rM_read rM_st fM_st kM_st rM_undone rM_kept iM_undos iM_images rM_fresher iM_fresherSize iM_scale iM_night rM_heardRow rM_cutRow iM_breaths iM_cutMany iM_allBreaths rM_trial fM_trial kM_trial rM_words iM_fewestBreaths iM_orderMany iM_orderSum iM_leastOrder rM_often iM_setMany iM_someOf iM_allOf iM_allWeight iM_enoughWeight iM_worthSum iM_firstRest iM_leastDrawn p0 99 (by first | omega | decide) (by first | omega | decide) (by first | omega | decide) (by first | omega | decide) (by first | omega | decide) (by first | omega | decide) (by first | omega | decide) (by first | omega | decide) (by first | omega | decide) (by first | omega | decide) (by assumption) (by assumption) (by assumption) (by assumption) (by assumption) (by first | omega | decide | assumption | (have q0 := kc_0; have q1 := kc_1; have q2 := kc_99; omega) | (intro h; exact absurd h (by decide)))) (cwV 2 hts (wd_V wd_975 wd_976 wd_977 wd_5 (wd_c wd_978)) rfl rfl rfl (by decide +kernel) ⟨Nat.le_of_ble_eq_true rfl, Nat.le_of_ble_eq_true rfl⟩) ⟨Pw.fb, va_recv hK hP (ci := 7) (q0 := 0) rfl rfl, fun U hU hW => Pw.to (hP.sub [0, 1, 2, 3, 4] rfl) (hD.sub [0, 1, 2, 3, 4] (by decide) rfl) (hK.sub [0, 1, 2, 3] rfl) hE hS hFc hU hW⟩ rfl rfl hl.1 rfl (lv_room (Nat.le_of_ble_eq_true rfl)) dX7_doesProve_34 ⟨Nat.le_of_ble_eq_true rfl, Nat.le_of_ble_eq_true rfl⟩) hS (fun q _ h => hFc q h) hFc (fun r u t H locs ht hvm hw hB hz1 hk1 hS => ?_)
      have hru9 := hw.2
      have hw := hw.1
      obtain ⟨f_1742, e_f_1742_0, hB⟩ := hB
      obtain ⟨hP, hD, hK⟩ := Bw.go (ws' := [(oc7 oM iM_thrown rM_tape iM_taped iM_size iM_at iM_end iM_token iM_whole iM_nameSize iM_fault iM_place iM_trouble rM_letters iM_failed iM_hasCourt rM_r rM_fresh rM_told rM_read rM_st rM_undone rM_kept iM_undos iM_images rM_fresher iM_fresherSize iM_scale iM_night rM_heardRow rM_cutRow iM_breaths iM_cutMany iM_allBreaths rM_trial rM_words iM_fewestBreaths iM_orderMany iM_orderSum iM_leastOrder rM_often iM_setMany iM_someOf iM_allOf iM_allWeight iM_enoughWeight iM_worthSum iM_firstRest iM_leastDrawn), (arI rM_r kM_r 287 fM_r), (arI rM_told kM_told 90 fM_told), (arI rM_st kM_st 90 fM_st), (arI rM_trial kM_trial 90 f_1742)]) (tys' := [(kM_r, .int), (kM_told, .int), (kM_st, .int), (kM_trial, .int)]) hB rfl ht hvm hP hD hK [0, 1, 2, 3, 4] [] rfl (by decide) (by decide) [] hk1 hFc rfl rfl rfl
      clear hz1 hk1 hvm ht hB
      rw [← hru9] at e_f_1742_0
      obtain ⟨x_1743, rfl⟩ : ∃ z, z = r := ⟨_, rfl⟩
      have hG := hG.trans (un2_eq e_f_1742_0)
      refine lv_iload_n hx hb dX7_doesProve_37 rfl (lv_at hl 3 rfl) ?_
      refine lv_aload_n hx hb dX7_doesProve_38 rfl (lv_at hl 0 rfl) ?_
      refine va_get (D := (dC, dI)) (ci := 7) (v := .int iM_scale) (C := RX7) (T := TX7) (N := 48) hx hb hts inX7 hown hK hP 0 rfl rfl 26 (by decide) (hts _ wd_163) (fun _ h9 => h9) rfl dX7_doesProve_39 ?_
      refine lv_imul hx hb dX7_doesProve_42 ?_
      refine lv_topi (fun x_1744 ex_1744 => ?_)
      have hG := hG.trans (lt_eq ex_1744)
      refine lv_icmp_ge (tgt := 50) hx hb dX7_doesProve_43 (by decide) (fun c_1745 => ?_) (fun c_1745 => ?_)
      · skip
        have hG := hG.trans (if_pos c_1745)
        have gc_1745 := ti_le c_1745 rfl rfl
        refine lv_iconst (v := 0) hx hb dX7_doesProve_50 (by decide) ?_
        exact W.zret (v := 0) hx hb hr rfl (fun t ht hW => ⟨⟨_, (cI 0), rfl, ⟨⟨Or.inl rfl, trivial⟩, (cI_of 0)⟩, ⟨f_1742, (cI_tup hG), Bw.to (hP.sub [0, 1, 2, 3, 4] rfl) (hD.sub [0, 1, 2, 3, 4] (by decide) rfl) (hK.sub [0, 1, 2, 3] rfl) ht hW⟩⟩, hS.F ht⟩) hS.2.2 dX7_doesProve_51
      · skip
        have hG := hG.trans (if_neg c_1745)
        have gc_1745 := ti_nle c_1745 rfl rfl
        refine lv_iconst (v := 1) hx hb dX7_doesProve_46 (by decide) ?_
        refine lv_goto (tgt := 51) hx hb dX7_doesProve_47 (by decide) ?_
        exact W.zret (v := 1) hx hb hr rfl (fun t ht hW => ⟨⟨_, (cI 1), rfl, ⟨⟨Or.inr rfl, trivial⟩, (cI_of 1)⟩, ⟨f_1742, (cI_tup hG), Bw.to (hP.sub [0, 1, 2, 3, 4] rfl) (hD.sub [0, 1, 2, 3, 4] (by decide) rfl) (hK.sub [0, 1, 2, 3] rfl) ht hW⟩⟩, hS.F ht⟩) hS.2.2 dX7_doesProve_51
  · skip
    have hG := hG.trans (if_pos c_1735)
    have gc_1735 := ti_eq c_1735 rfl kc_0
    refine lv_aload_n hx hb dX7_doesProve_4 rfl (lv_at hl 0 rfl) ?_
    refine lv_iload_n hx hb dX7_doesProve_5 rfl (lv_at hl 1 rfl) ?_
    refine lv_iconst (v := 0) hx hb dX7_doesProve_6 (by decide) ?_
    have hFc := va_free (wc := [(oc7 oM iM_thrown rM_tape iM_taped iM_size iM_at iM_end iM_token iM_whole iM_nameSize iM_fault iM_place iM_trouble rM_letters iM_failed iM_hasCourt rM_r rM_fresh rM_told rM_read rM_st rM_undone rM_kept iM_undos iM_images rM_fresher iM_fresherSize iM_scale iM_night rM_heardRow rM_cutRow iM_breaths iM_cutMany iM_allBreaths rM_trial rM_words iM_fewestBreaths iM_orderMany iM_orderSum iM_leastOrder rM_often iM_setMany iM_someOf iM_allOf iM_allWeight iM_enoughWeight iM_worthSum iM_firstRest iM_leastDrawn), (arI rM_r kM_r 287 fM_r), (arI rM_told kM_told 90 fM_told), (arI rM_st kM_st 90 fM_st), (arI rM_trial kM_trial 90 fM_trial)]) hD hS hA [0, 1, 2, 3, 4] rfl
    refine va_calli (va_runV (As := [.int p0, .int 0]) (rest := []) ⟨hx, hb, hml, hown, hts⟩ (tX7_throneIf l dC dI _ oM iM_thrown rM_tape iM_taped iM_size iM_at iM_end iM_token iM_whole iM_nameSize iM_fault iM_place iM_trouble rM_letters iM_failed iM_hasCourt rM_r fM_r kM_r rM_fresh rM_told fM_told kM_told rM_read rM_st fM_st kM_st rM_undone rM_kept iM_undos iM_images rM_fresher iM_fresherSize iM_scale iM_night rM_heardRow rM_cutRow iM_breaths iM_cutMany iM_allBreaths rM_trial fM_trial kM_trial rM_words iM_fewestBreaths iM_orderMany iM_orderSum iM_leastOrder rM_often iM_setMany iM_someOf iM_allOf iM_allWeight iM_enoughWeight iM_worthSum iM_firstRest iM_leastDrawn p0 0 (by first | omega | decide) (by first | omega | decide) (by first | omega | decide) (by first | omega | decide) (by first | omega | decide) (by first | omega | decide) (by first | omega | decide) (by first | omega | decide) (by first | omega | decide) (by first | omega | decide) (by assumption) (by assumption) (by assumption) (by assumption) (by assumption) (by first | omega | decide | assumption | (have q0 := kc_0; have q1 := kc_1; omega) | (intro h; exact absurd h (by decide)))) (cwV 2 hts (wd_V wd_975 wd_976 wd_977 wd_5 (wd_c wd_978)) rfl rfl rfl (by decide +kernel) ⟨Nat.le_of_ble_eq_true rfl, Nat.le_of_ble_eq_true rfl⟩) ⟨Pw.fb, va_recv hK hP (ci := 7) (q0 := 0) rfl rfl, fun U hU hW => Pw.to (hP.sub [0, 1, 2, 3, 4] rfl) (hD.sub [0, 1, 2, 3, 4] (by decide) rfl) (hK.sub [0, 1, 2, 3] rfl) hE hS hFc hU hW⟩ rfl rfl hl.1 rfl (lv_room (Nat.le_of_ble_eq_true rfl)) dX7_doesProve_7 ⟨Nat.le_of_ble_eq_true rfl, Nat.le_of_ble_eq_true rfl⟩) hS (fun q _ h => hFc q h) hFc (fun r u t H locs ht hvm hw hB hz1 hk1 hS => ?_)
    have hru9 := hw.2
    have hw := hw.1
    obtain ⟨f_1746, e_f_1746_0, hB⟩ := hB
    obtain ⟨hP, hD, hK⟩ := Bw.go (ws' := [(oc7 oM iM_thrown rM_tape iM_taped iM_size iM_at iM_end iM_token iM_whole iM_nameSize iM_fault iM_place iM_trouble rM_letters iM_failed iM_hasCourt rM_r rM_fresh rM_told rM_read rM_st rM_undone rM_kept iM_undos iM_images rM_fresher iM_fresherSize iM_scale iM_night rM_heardRow rM_cutRow iM_breaths iM_cutMany iM_allBreaths rM_trial rM_words iM_fewestBreaths iM_orderMany iM_orderSum iM_leastOrder rM_often iM_setMany iM_someOf iM_allOf iM_allWeight iM_enoughWeight iM_worthSum iM_firstRest iM_leastDrawn), (arI rM_r kM_r 287 fM_r), (arI rM_told kM_told 90 fM_told), (arI rM_st kM_st 90 fM_st), (arI rM_trial kM_trial 90 f_1746)]) (tys' := [(kM_r, .int), (kM_told, .int), (kM_st, .int), (kM_trial, .int)]) hB rfl ht hvm hP hD hK [0, 1, 2, 3, 4] [] rfl (by decide) (by decide) [] hk1 hFc rfl rfl rfl
    clear hz1 hk1 hvm ht hB
    rw [← hru9] at e_f_1746_0
    obtain ⟨x_1747, rfl⟩ : ∃ z, z = r := ⟨_, rfl⟩
    have hG := hG.trans (un2_eq e_f_1746_0)
    refine lv_iload_n hx hb dX7_doesProve_10 rfl (lv_at hl 3 rfl) ?_
    refine lv_aload_n hx hb dX7_doesProve_11 rfl (lv_at hl 0 rfl) ?_
    refine va_get (D := (dC, dI)) (ci := 7) (v := .int iM_scale) (C := RX7) (T := TX7) (N := 48) hx hb hts inX7 hown hK hP 0 rfl rfl 26 (by decide) (hts _ wd_163) (fun _ h9 => h9) rfl dX7_doesProve_12 ?_
    refine lv_imul hx hb dX7_doesProve_15 ?_
    refine lv_topi (fun x_1748 ex_1748 => ?_)
    have hG := hG.trans (lt_eq ex_1748)
    refine lv_icmp_lt (tgt := 23) hx hb dX7_doesProve_16 (by decide) (fun c_1749 => ?_) (fun c_1749 => ?_)
    · skip
      have hG := hG.trans (if_pos c_1749)
      have gc_1749 := ti_lt c_1749 rfl rfl
      refine lv_iconst (v := 0) hx hb dX7_doesProve_23 (by decide) ?_
      exact W.zret (v := 0) hx hb hr rfl (fun t ht hW => ⟨⟨_, (cI 0), rfl, ⟨⟨Or.inl rfl, trivial⟩, (cI_of 0)⟩, ⟨f_1746, (cI_tup hG), Bw.to (hP.sub [0, 1, 2, 3, 4] rfl) (hD.sub [0, 1, 2, 3, 4] (by decide) rfl) (hK.sub [0, 1, 2, 3] rfl) ht hW⟩⟩, hS.F ht⟩) hS.2.2 dX7_doesProve_24
    · skip
      have hG := hG.trans (if_neg c_1749)
      have gc_1749 := ti_nlt c_1749 rfl rfl
      refine lv_iconst (v := 1) hx hb dX7_doesProve_19 (by decide) ?_
      refine lv_goto (tgt := 24) hx hb dX7_doesProve_20 (by decide) ?_
      exact W.zret (v := 1) hx hb hr rfl (fun t ht hW => ⟨⟨_, (cI 1), rfl, ⟨⟨Or.inr rfl, trivial⟩, (cI_of 1)⟩, ⟨f_1746, (cI_tup hG), Bw.to (hP.sub [0, 1, 2, 3, 4] rfl) (hD.sub [0, 1, 2, 3, 4] (by decide) rfl) (hK.sub [0, 1, 2, 3] rfl) ht hW⟩⟩, hS.F ht⟩) hS.2.2 dX7_doesProve_24
set_option maxHeartbeats 4000000 in
set_option maxRecDepth 100000 in
theorem tX7_fewestFor (l : Launch) (dC : Nat → ClassId) (dI : Nat → Nat → Nat) (sz : Nat) (oM : Nat) (iM_thrown : Int32) (rM_tape : Nat) (iM_taped : Int32) (iM_size : Int32) (iM_at : Int32) (iM_end : Int32) (iM_token : Int32) (iM_whole : Int32) (iM_nameSize : Int32) (iM_fault : Int32) (iM_place : Int32) (iM_trouble : Int32) (rM_letters : Nat) (iM_failed : Int32) (iM_hasCourt : Int32) (rM_r : Nat) (fM_r : Nat → Int32) (kM_r : ClassId) (rM_fresh : Nat) (rM_told : Nat) (fM_told : Nat → Int32) (kM_told : ClassId) (rM_read : Nat) (rM_st : Nat) (fM_st : Nat → Int32) (kM_st : ClassId) (rM_undone : Nat) (rM_kept : Nat) (iM_undos : Int32) (iM_images : Int32) (rM_fresher : Nat) (iM_fresherSize : Int32) (iM_scale : Int32) (iM_night : Int32) (rM_heardRow : Nat) (rM_cutRow : Nat) (iM_breaths : Int32) (iM_cutMany : Int32) (iM_allBreaths : Int32) (rM_trial : Nat) (fM_trial : Nat → Int32) (kM_trial : ClassId) (rM_words : Nat) (fM_words : Nat → Int32) (kM_words : ClassId) (iM_fewestBreaths : Int32) (iM_orderMany : Int32) (iM_orderSum : Int32) (iM_leastOrder : Int32) (rM_often : Nat) (iM_setMany : Int32) (iM_someOf : Int32) (iM_allOf : Int32) (iM_allWeight : Int64) (iM_enoughWeight : Int64) (iM_worthSum : Int64) (iM_firstRest : Int32) (iM_leastDrawn : Int32) (p0 : Int32) (p1 : Int32) (b_iM_taped : 0 ≤ iM_taped.toInt ∧ iM_taped.toInt ≤ 900) (b_iM_size : 0 ≤ iM_size.toInt ∧ iM_size.toInt ≤ 900) (b_iM_end : 0 ≤ iM_end.toInt ∧ iM_end.toInt ≤ 900) (b_iM_failed : 0 ≤ iM_failed.toInt ∧ iM_failed.toInt ≤ 1) (b_iM_hasCourt : 0 ≤ iM_hasCourt.toInt ∧ iM_hasCourt.toInt ≤ 1) (b_iM_undos : 0 ≤ iM_undos.toInt ∧ iM_undos.toInt ≤ 16) (b_iM_images : 0 ≤ iM_images.toInt ∧ iM_images.toInt ≤ 3) (b_iM_scale : 1 ≤ iM_scale.toInt ∧ iM_scale.toInt ≤ 1296) (b_iM_breaths : 0 ≤ iM_breaths.toInt ∧ iM_breaths.toInt ≤ 399) (b_iM_cutMany : 0 ≤ iM_cutMany.toInt ∧ iM_cutMany.toInt ≤ 399) (r_R : ROk fM_r) (r_C : iM_hasCourt.toInt ≤ 0 ∨ (1 ≤ (fM_r 1).toInt ∧ 0 ≤ (fM_r 6).toInt ∧ (fM_r 6).toInt < (fM_r 1).toInt)) (r_st : RowOk fM_r fM_st) (r_told : RowOk fM_r fM_told) (r_wst : WorOk fM_st) (hth : 0 ≤ (fM_r 6).toInt ∧ (fM_r 6).toInt < (fM_r 1).toInt) : Met l yX7_fewestFor (Cond.code yX7_fewestFor cX7_fewestFor 8 (some .int) :: wG) ({ frames := 24, cells := 0, slots := 0, locals := 631 }) (va_Pc [.ref oM, .int p0, .int p1] (Pw dC dI sz [(oc7 oM iM_thrown rM_tape iM_taped iM_size iM_at iM_end iM_token iM_whole iM_nameSize iM_fault iM_place iM_trouble rM_letters iM_failed iM_hasCourt rM_r rM_fresh rM_told rM_read rM_st rM_undone rM_kept iM_undos iM_images rM_fresher iM_fresherSize iM_scale iM_night rM_heardRow rM_cutRow iM_breaths iM_cutMany iM_allBreaths rM_trial rM_words iM_fewestBreaths iM_orderMany iM_orderSum iM_leastOrder rM_often iM_setMany iM_someOf iM_allOf iM_allWeight iM_enoughWeight iM_worthSum iM_firstRest iM_leastDrawn), (arI rM_r kM_r 287 fM_r), (arI rM_told kM_told 90 fM_told), (arI rM_st kM_st 90 fM_st), (arI rM_trial kM_trial 90 fM_trial), (arI rM_words kM_words 10 fM_words)] [(kM_r, .int), (kM_told, .int), (kM_st, .int), (kM_trial, .int), (kM_words, .int)])) (va_Qi (fun (r : Int32) (u : Nat) => (True ∧ True) ∧ r = Int32.ofNat u) (fun (u : Nat) (t : State) => ∃ (nfM_trial : Nat → Int32) (nfM_words : Nat → Int32), (PX7_fewestFor fM_r fM_told fM_st iM_scale iM_night fM_trial fM_words p0 p1 = (Int32.ofNat u, nfM_trial, nfM_words)) ∧ Bw dC dI (va_A [(oc7 oM iM_thrown rM_tape iM_taped iM_size iM_at iM_end iM_token iM_whole iM_nameSize iM_fault iM_place iM_trouble rM_letters iM_failed iM_hasCourt rM_r rM_fresh rM_told rM_read rM_st rM_undone rM_kept iM_undos iM_images rM_fresher iM_fresherSize iM_scale iM_night rM_heardRow rM_cutRow iM_breaths iM_cutMany iM_allBreaths rM_trial rM_words iM_fewestBreaths iM_orderMany iM_orderSum iM_leastOrder rM_often iM_setMany iM_someOf iM_allOf iM_allWeight iM_enoughWeight iM_worthSum iM_firstRest iM_leastDrawn), (arI rM_r kM_r 287 fM_r), (arI rM_told kM_told 90 fM_told), (arI rM_st kM_st 90 fM_st), (arI rM_trial kM_trial 90 fM_trial), (arI rM_words kM_words 10 fM_words)] sz) [(oc7 oM iM_thrown rM_tape iM_taped iM_size iM_at iM_end iM_token iM_whole iM_nameSize iM_fault iM_place iM_trouble rM_letters iM_failed iM_hasCourt rM_r rM_fresh rM_told rM_read rM_st rM_undone rM_kept iM_undos iM_images rM_fresher iM_fresherSize iM_scale iM_night rM_heardRow rM_cutRow iM_breaths iM_cutMany iM_allBreaths rM_trial rM_words iM_fewestBreaths iM_orderMany iM_orderSum iM_leastOrder rM_often iM_setMany iM_someOf iM_allOf iM_allWeight iM_enoughWeight iM_worthSum iM_firstRest iM_leastDrawn), (arI rM_r kM_r 287 fM_r), (arI rM_told kM_told 90 fM_told), (arI rM_st kM_st 90 fM_st), (arI rM_trial kM_trial 90 nfM_trial), (arI rM_words kM_words 10 nfM_words)] [(kM_r, .int), (kM_told, .int), (kM_st, .int), (kM_trial, .int), (kM_words, .int)] t) (va_A [(oc7 oM iM_thrown rM_tape iM_taped iM_size iM_at iM_end iM_token iM_whole iM_nameSize iM_fault iM_place iM_trouble rM_letters iM_failed iM_hasCourt rM_r rM_fresh rM_told rM_read rM_st rM_undone rM_kept iM_undos iM_images rM_fresher iM_fresherSize iM_scale iM_night rM_heardRow rM_cutRow iM_breaths iM_cutMany iM_allBreaths rM_trial rM_words iM_fewestBreaths iM_orderMany iM_orderSum iM_leastOrder rM_often iM_setMany iM_someOf iM_allOf iM_allWeight iM_enoughWeight iM_worthSum iM_firstRest iM_leastDrawn), (arI rM_r kM_r 287 fM_r), (arI rM_told kM_told 90 fM_told), (arI rM_st kM_st 90 fM_st), (arI rM_trial kM_trial 90 fM_trial), (arI rM_words kM_words 10 fM_words)] sz)) 0 0 (va_A [(oc7 oM iM_thrown rM_tape iM_taped iM_size iM_at iM_end iM_token iM_whole iM_nameSize iM_fault iM_place iM_trouble rM_letters iM_failed iM_hasCourt rM_r rM_fresh rM_told rM_read rM_st rM_undone rM_kept iM_undos iM_images rM_fresher iM_fresherSize iM_scale iM_night rM_heardRow rM_cutRow iM_breaths iM_cutMany iM_allBreaths rM_trial rM_words iM_fewestBreaths iM_orderMany iM_orderSum iM_leastOrder rM_often iM_setMany iM_someOf iM_allOf iM_allWeight iM_enoughWeight iM_worthSum iM_firstRest iM_leastDrawn), (arI rM_r kM_r 287 fM_r), (arI rM_told kM_told 90 fM_told), (arI rM_st kM_st 90 fM_st), (arI rM_trial kM_trial 90 fM_trial), (arI rM_words kM_words 10 fM_words)] sz) := by
  refine Met.ofW (cc := cX7_fewestFor) (maxL := 8) (ret := (some .int)) (by decide) rfl ?_
  intro p e s m args below meth c s₁ B hml hv
  obtain ⟨rfl, hsz, hP, hK, hD0, hE⟩ := hv
  have hx := B.exec
  have hb := B.bytes
  have hr := B.returns
  have hts : ∀ w ∈ wG, w.before ([.ref oM, .int p0, .int p1] : List Value).toArray s = true := fun w h => atoms_spec (ws := Cond.code yX7_fewestFor cX7_fewestFor 8 (some .int) :: wG) B.pre w (List.mem_cons_of_mem _ h)
  have hown : s.vm.findClass RX7 = some m.cls := findClass_of_methodNamed B.named
  have hlocks := B.notSynchronized
  subst hsz
  have hD := hD0.self (sz := s.heap.size)
  generalize hAe : va_A [(oc7 oM iM_thrown rM_tape iM_taped iM_size iM_at iM_end iM_token iM_whole iM_nameSize iM_fault iM_place iM_trouble rM_letters iM_failed iM_hasCourt rM_r rM_fresh rM_told rM_read rM_st rM_undone rM_kept iM_undos iM_images rM_fresher iM_fresherSize iM_scale iM_night rM_heardRow rM_cutRow iM_breaths iM_cutMany iM_allBreaths rM_trial rM_words iM_fewestBreaths iM_orderMany iM_orderSum iM_leastOrder rM_often iM_setMany iM_someOf iM_allOf iM_allWeight iM_enoughWeight iM_worthSum iM_firstRest iM_leastDrawn), (arI rM_r kM_r 287 fM_r), (arI rM_told kM_told 90 fM_told), (arI rM_st kM_st 90 fM_st), (arI rM_trial kM_trial 90 fM_trial), (arI rM_words kM_words 10 fM_words)] s.heap.size = A at hD hE ⊢
  have hA : ∀ q : Nat, s.heap.size ≤ q → A q := fun q h => by rw [← hAe]; exact Or.inr h
  have hS : va_S A s.heap s.heap [] := va_S.rf
  have hl := lv_entry ([.ref oM, .int p0, .int p1]) (n := 8) (Nat.le_of_ble_eq_true rfl)
  rw [lg_entry_eq]
  generalize (lg_sl ([.ref oM, .int p0, .int p1]) ++ List.replicate (8 - (lg_sl ([.ref oM, .int p0, .int p1])).length) Slot.unset).toArray = ls at hl ⊢
  have hl : lv_has ls 8 [(0, .ref oM), (1, .int p0), (2, .int p1)] := hl
  have hG := PX7_fewestFor_eq fM_r fM_told fM_st iM_scale iM_night fM_trial fM_words p0 p1
  have rg_p0 := fb_rng p0
  have rg_p1 := fb_rng p1
  have s_slips := r_R.slips
  have s_nodes := r_R.nodes
  have s_uns := r_R.uns
  refine lv_iconst (v := 0) hx hb dX7_fewestFor_0 (by decide) ?_
  refine lv_istore_n (lv' := [(3, .int 0), (0, .ref oM), (1, .int p0), (2, .int p1)]) hx hb dX7_fewestFor_1 rfl hl (by decide) rfl (fun ls hl => ?_)
  refine lv_iconst (v := 0) hx hb dX7_fewestFor_2 (by decide) ?_
  refine lv_istore (lv' := [(4, .int 0), (3, .int 0), (0, .ref oM), (1, .int p0), (2, .int p1)]) hx hb dX7_fewestFor_3 hl (by decide) rfl (fun ls hl => ?_)
  have hl := lv_sub hl (l' := [(4, .int 0), (3, .int 0), (0, .ref oM), (1, .int p0), (2, .int p1)]) [0, 1, 2, 3, 4] rfl
  have key_n_1875 : ∀ (n_1875 : Nat) (z_1872 : Int32) (z_1873 : Int32) (f_1874 : Nat → Int32) (H : Heap) (locs : List Loc) (ls : Array Slot), (0 ≤ z_1872.toInt ∧ z_1872.toInt ≤ (fM_r 1).toInt) → (z_1873.toInt = (cntP (fun k => (fM_r (9 + k)).toInt = 0) (z_1872.toNatClampNeg) : Int)) → ((fM_r 1).toInt - z_1872.toInt).toNat < n_1875 → (PX7_fewestFor fM_r fM_told fM_st iM_scale iM_night fM_trial fM_words p0 p1 = HX7_fewestFor_0 fM_r fM_told fM_st iM_scale iM_night fM_trial p0 p1 n_1875 z_1872 z_1873 f_1874) → va_P (dC, dI) vwCl [(oc7 oM iM_thrown rM_tape iM_taped iM_size iM_at iM_end iM_token iM_whole iM_nameSize iM_fault iM_place iM_trouble rM_letters iM_failed iM_hasCourt rM_r rM_fresh rM_told rM_read rM_st rM_undone rM_kept iM_undos iM_images rM_fresher iM_fresherSize iM_scale iM_night rM_heardRow rM_cutRow iM_breaths iM_cutMany iM_allBreaths rM_trial rM_words iM_fewestBreaths iM_orderMany iM_orderSum iM_leastOrder rM_often iM_setMany iM_someOf iM_allOf iM_allWeight iM_enoughWeight iM_worthSum iM_firstRest iM_leastDrawn), (arI rM_r kM_r 287 fM_r), (arI rM_told kM_told 90 fM_told), (arI rM_st kM_st 90 fM_st), (arI rM_trial kM_trial 90 fM_trial), (arI rM_words kM_words 10 f_1874)] H → va_D A [(oc7 oM iM_thrown rM_tape iM_taped iM_size iM_at iM_end iM_token iM_whole iM_nameSize iM_fault iM_place iM_trouble rM_letters iM_failed iM_hasCourt rM_r rM_fresh rM_told rM_read rM_st rM_undone rM_kept iM_undos iM_images rM_fresher iM_fresherSize iM_scale iM_night rM_heardRow rM_cutRow iM_breaths iM_cutMany iM_allBreaths rM_trial rM_words iM_fewestBreaths iM_orderMany iM_orderSum iM_leastOrder rM_often iM_setMany iM_someOf iM_allOf iM_allWeight iM_enoughWeight iM_worthSum iM_firstRest iM_leastDrawn), (arI rM_r kM_r 287 fM_r), (arI rM_told kM_told 90 fM_told), (arI rM_st kM_st 90 fM_st), (arI rM_trial kM_trial 90 fM_trial), (arI rM_words kM_words 10 f_1874)] → va_S A s.heap H locs → lv_has ls 8 [(4, .int z_1872), (3, .int z_1873), (0, .ref oM), (1, .int p0), (2, .int p1)] → W p l e (headSpec (Cond.code yX7_fewestFor cX7_fewestFor 8 (some .int) :: wG) ({ frames := 24, cells := 0, slots := 0, locals := 631 })).room s m ([.ref oM, .int p0, .int p1] : List Value).toArray below meth c H locs 0 0 (MQ below (va_Qi (fun (r : Int32) (u : Nat) => (True ∧ True) ∧ r = Int32.ofNat u) (fun (u : Nat) (t : State) => ∃ (nfM_trial : Nat → Int32) (nfM_words : Nat → Int32), (PX7_fewestFor fM_r fM_told fM_st iM_scale iM_night fM_trial fM_words p0 p1 = (Int32.ofNat u, nfM_trial, nfM_words)) ∧ Bw dC dI A [(oc7 oM iM_thrown rM_tape iM_taped iM_size iM_at iM_end iM_token iM_whole iM_nameSize iM_fault iM_place iM_trouble rM_letters iM_failed iM_hasCourt rM_r rM_fresh rM_told rM_read rM_st rM_undone rM_kept iM_undos iM_images rM_fresher iM_fresherSize iM_scale iM_night rM_heardRow rM_cutRow iM_breaths iM_cutMany iM_allBreaths rM_trial rM_words iM_fewestBreaths iM_orderMany iM_orderSum iM_leastOrder rM_often iM_setMany iM_someOf iM_allOf iM_allWeight iM_enoughWeight iM_worthSum iM_firstRest iM_leastDrawn), (arI rM_r kM_r 287 fM_r), (arI rM_told kM_told 90 fM_told), (arI rM_st kM_st 90 fM_st), (arI rM_trial kM_trial 90 nfM_trial), (arI rM_words kM_words 10 nfM_words)] [(kM_r, .int), (kM_told, .int), (kM_st, .int), (kM_trial, .int), (kM_words, .int)] t) A) ([.ref oM, .int p0, .int p1] : List Value).toArray s 0 0 A) (F0 m 5 ls []) := by
    intro n_1875
    induction n_1875 with
    | zero => intro z_1872 z_1873 f_1874 H locs ls hi0_n_1875 hi1_n_1875 hm; exact absurd hm (by omega)
    | succ n_1875 ih_n_1875 =>
      intro z_1872 z_1873 f_1874 H locs ls hi0_n_1875 hi1_n_1875 hm hG hP hD hS hl
      have hG := hG.trans (HX7_fewestFor_0_eq _ _ _ _ _ _ _ _ _ _ _ _)
      have rg_z_1872 := fb_rng z_1872
      have rg_z_1873 := fb_rng z_1873
      have cb_z_1872 := r_R.cw z_1872.toNatClampNeg (by have q1 := ti_cl (x := z_1872) rfl (by omega); omega)
      refine lv_iload hx hb dX7_fewestFor_5 (lv_at hl 0 rfl) ?_
      refine lv_aload_n hx hb dX7_fewestFor_7 rfl (lv_at hl 2 rfl) ?_
      refine va_get (D := (dC, dI)) (ci := 7) (v := .ref rM_r) (C := RX7) (T := TX7) (N := 48) hx hb hts inX7 hown hK hP 0 rfl rfl 15 (by decide) (hts _ wd_155) (fun _ h9 => h9) rfl dX7_fewestFor_8 ?_
      refine lv_iconst (v := 1) hx hb dX7_fewestFor_11 (by decide) ?_
      refine va_iald hx hb hK hP 1 0 rfl rfl (by unfold vp_in; decide) dX7_fewestFor_12 ?_
      refine lv_topi (fun x_1876 ex_1876 => ?_)
      have hG := hG.trans (lt_eq ex_1876)
      have rg_x_1876 := fb_rng x_1876
      have cx_1876 : (fM_r 1).toInt = x_1876.toInt := congrArg Int32.toInt (show fM_r 1 = x_1876 from ex_1876.symm)
      have sx_1876 := r_R.nodes
      refine lv_icmp_ge (tgt := 49) hx hb dX7_fewestFor_13 (by decide) (fun c_1877 => ?_) (fun c_1877 => ?_)
      · skip
        have hG := hG.trans (if_pos c_1877)
        have gc_1877 := ti_le c_1877 rfl rfl
        refine lv_bipush (v := (-2)) hx hb dX7_fewestFor_49 (by decide) ?_
        refine lv_istore (lv' := [(4, .int (-2)), (3, .int z_1873), (0, .ref oM), (1, .int p0), (2, .int p1)]) hx hb dX7_fewestFor_51 hl (by decide) rfl (fun ls hl => ?_)
        refine lv_iconst (v := 0) hx hb dX7_fewestFor_53 (by decide) ?_
        refine lv_istore (lv' := [(5, .int 0), (4, .int (-2)), (3, .int z_1873), (0, .ref oM), (1, .int p0), (2, .int p1)]) hx hb dX7_fewestFor_54 hl (by decide) rfl (fun ls hl => ?_)
        have hl := lv_sub hl (l' := [(5, .int 0), (4, .int (-2)), (3, .int z_1873), (0, .ref oM), (1, .int p0), (2, .int p1)]) [0, 1, 2, 3, 4, 5] rfl
        have key_n_1881 : ∀ (n_1881 : Nat) (z_1878 : Int32) (z_1879 : Int32) (f_1880 : Nat → Int32) (H : Heap) (locs : List Loc) (ls : Array Slot), (0 ≤ z_1878.toInt ∧ z_1878.toInt ≤ 2147483647) → (2147483647 - z_1878.toInt).toNat < n_1881 → (PX7_fewestFor fM_r fM_told fM_st iM_scale iM_night fM_trial fM_words p0 p1 = HX7_fewestFor_1 fM_r fM_told fM_st iM_scale iM_night p0 p1 z_1873 f_1874 n_1881 z_1878 z_1879 f_1880) → va_P (dC, dI) vwCl [(oc7 oM iM_thrown rM_tape iM_taped iM_size iM_at iM_end iM_token iM_whole iM_nameSize iM_fault iM_place iM_trouble rM_letters iM_failed iM_hasCourt rM_r rM_fresh rM_told rM_read rM_st rM_undone rM_kept iM_undos iM_images rM_fresher iM_fresherSize iM_scale iM_night rM_heardRow rM_cutRow iM_breaths iM_cutMany iM_allBreaths rM_trial rM_words iM_fewestBreaths iM_orderMany iM_orderSum iM_leastOrder rM_often iM_setMany iM_someOf iM_allOf iM_allWeight iM_enoughWeight iM_worthSum iM_firstRest iM_leastDrawn), (arI rM_r kM_r 287 fM_r), (arI rM_told kM_told 90 fM_told), (arI rM_st kM_st 90 fM_st), (arI rM_trial kM_trial 90 f_1880), (arI rM_words kM_words 10 f_1874)] H → va_D A [(oc7 oM iM_thrown rM_tape iM_taped iM_size iM_at iM_end iM_token iM_whole iM_nameSize iM_fault iM_place iM_trouble rM_letters iM_failed iM_hasCourt rM_r rM_fresh rM_told rM_read rM_st rM_undone rM_kept iM_undos iM_images rM_fresher iM_fresherSize iM_scale iM_night rM_heardRow rM_cutRow iM_breaths iM_cutMany iM_allBreaths rM_trial rM_words iM_fewestBreaths iM_orderMany iM_orderSum iM_leastOrder rM_often iM_setMany iM_someOf iM_allOf iM_allWeight iM_enoughWeight iM_worthSum iM_firstRest iM_leastDrawn), (arI rM_r kM_r 287 fM_r), (arI rM_told kM_told 90 fM_told), (arI rM_st kM_st 90 fM_st), (arI rM_trial kM_trial 90 f_1880), (arI rM_words kM_words 10 f_1874)] → va_S A s.heap H locs → lv_has ls 8 [(5, .int z_1878), (4, .int z_1879), (3, .int z_1873), (0, .ref oM), (1, .int p0), (2, .int p1)] → W p l e (headSpec (Cond.code yX7_fewestFor cX7_fewestFor 8 (some .int) :: wG) ({ frames := 24, cells := 0, slots := 0, locals := 631 })).room s m ([.ref oM, .int p0, .int p1] : List Value).toArray below meth c H locs 0 0 (MQ below (va_Qi (fun (r : Int32) (u : Nat) => (True ∧ True) ∧ r = Int32.ofNat u) (fun (u : Nat) (t : State) => ∃ (nfM_trial : Nat → Int32) (nfM_words : Nat → Int32), (PX7_fewestFor fM_r fM_told fM_st iM_scale iM_night fM_trial fM_words p0 p1 = (Int32.ofNat u, nfM_trial, nfM_words)) ∧ Bw dC dI A [(oc7 oM iM_thrown rM_tape iM_taped iM_size iM_at iM_end iM_token iM_whole iM_nameSize iM_fault iM_place iM_trouble rM_letters iM_failed iM_hasCourt rM_r rM_fresh rM_told rM_read rM_st rM_undone rM_kept iM_undos iM_images rM_fresher iM_fresherSize iM_scale iM_night rM_heardRow rM_cutRow iM_breaths iM_cutMany iM_allBreaths rM_trial rM_words iM_fewestBreaths iM_orderMany iM_orderSum iM_leastOrder rM_often iM_setMany iM_someOf iM_allOf iM_allWeight iM_enoughWeight iM_worthSum iM_firstRest iM_leastDrawn), (arI rM_r kM_r 287 fM_r), (arI rM_told kM_told 90 fM_told), (arI rM_st kM_st 90 fM_st), (arI rM_trial kM_trial 90 nfM_trial), (arI rM_words kM_words 10 nfM_words)] [(kM_r, .int), (kM_told, .int), (kM_st, .int), (kM_trial, .int), (kM_words, .int)] t) A) ([.ref oM, .int p0, .int p1] : List Value).toArray s 0 0 A) (F0 m 56 ls []) := by
          intro n_1881
          induction n_1881 with
          | zero => intro z_1878 z_1879 f_1880 H locs ls hi0_n_1881 hm; exact absurd hm (by omega)
          | succ n_1881 ih_n_1881 =>
            intro z_1878 z_1879 f_1880 H locs ls hi0_n_1881 hm hG hP hD hS hl
            have hG := hG.trans (HX7_fewestFor_1_eq _ _ _ _ _ _ _ _ _ _ _ _ _)
            have rg_z_1878 := fb_rng z_1878
            have rg_z_1879 := fb_rng z_1879
            refine lv_iload hx hb dX7_fewestFor_56 (lv_at hl 0 rfl) ?_
            refine lv_iconst (v := 1) hx hb dX7_fewestFor_58 (by decide) ?_
            refine lv_iload_n hx hb dX7_fewestFor_59 rfl (lv_at hl 2 rfl) ?_
            refine lv_ishl hx hb dX7_fewestFor_60 ?_
            refine lv_topi (fun x_1882 ex_1882 => ?_)
            have hG := hG.trans (lt_eq ex_1882)
            have rg_x_1882 := fb_rng x_1882
            refine lv_icmp_ge (tgt := 152) hx hb dX7_fewestFor_61 (by decide) (fun c_1883 => ?_) (fun c_1883 => ?_)
            · skip
              have hG := hG.trans (if_pos c_1883)
              have gc_1883 := ti_le c_1883 rfl rfl
              refine lv_iload hx hb dX7_fewestFor_152 (lv_at hl 1 rfl) ?_
              exact W.iret hx hb hr (fun t ht hW => ⟨⟨_, (cI z_1879), rfl, ⟨⟨trivial, trivial⟩, (cI_of z_1879)⟩, ⟨f_1880, f_1874, (cI_tup hG), Bw.to (hP.sub [0, 1, 2, 3, 4, 5] rfl) (hD.sub [0, 1, 2, 3, 4, 5] (by decide) rfl) (hK.sub [0, 1, 2, 3, 4] rfl) ht hW⟩⟩, hS.F ht⟩) hS.2.2 dX7_fewestFor_154
            · skip
              have hG := hG.trans (if_neg c_1883)
              have gc_1883 := ti_nle c_1883 rfl rfl
              refine lv_iload hx hb dX7_fewestFor_64 (lv_at hl 1 rfl) ?_
              refine lv_if_lt (tgt := 85) hx hb dX7_fewestFor_66 (by decide) (fun c_1884 => ?_) (fun c_1884 => ?_)
              · skip
                have hG := hG.trans (if_pos c_1884)
                have gc_1884 := ti_lt c_1884 rfl kc_0
                refine lv_iconst (v := 0) hx hb dX7_fewestFor_85 (by decide) ?_
                refine lv_istore (lv' := [(6, .int 0), (5, .int z_1878), (4, .int z_1879), (3, .int z_1873), (0, .ref oM), (1, .int p0), (2, .int p1)]) hx hb dX7_fewestFor_86 hl (by decide) rfl (fun ls hl => ?_)
                refine lv_iconst (v := 0) hx hb dX7_fewestFor_88 (by decide) ?_
                refine lv_istore (lv' := [(7, .int 0), (6, .int 0), (5, .int z_1878), (4, .int z_1879), (3, .int z_1873), (0, .ref oM), (1, .int p0), (2, .int p1)]) hx hb dX7_fewestFor_89 hl (by decide) rfl (fun ls hl => ?_)
                have hl := lv_sub hl (l' := [(7, .int 0), (6, .int 0), (5, .int z_1878), (4, .int z_1879), (3, .int z_1873), (0, .ref oM), (1, .int p0), (2, .int p1)]) [0, 1, 2, 3, 4, 5, 6, 7] rfl
                have key_n_1887 : ∀ (n_1887 : Nat) (z_1885 : Int32) (z_1886 : Int32) (H : Heap) (locs : List Loc) (ls : Array Slot), (0 ≤ z_1885.toInt ∧ z_1885.toInt ≤ 2147483647) → (2147483647 - z_1885.toInt).toNat < n_1887 → (PX7_fewestFor fM_r fM_told fM_st iM_scale iM_night fM_trial fM_words p0 p1 = HX7_fewestFor_2 fM_r fM_told fM_st iM_scale iM_night p0 p1 z_1873 f_1874 z_1878 z_1879 f_1880 (fun (z_1878 : Int32) (z_1879 : Int32) (f_1880 : Nat → Int32) => HX7_fewestFor_1 fM_r fM_told fM_st iM_scale iM_night p0 p1 z_1873 f_1874 n_1881 z_1878 z_1879 f_1880) n_1887 z_1885 z_1886) → va_P (dC, dI) vwCl [(oc7 oM iM_thrown rM_tape iM_taped iM_size iM_at iM_end iM_token iM_whole iM_nameSize iM_fault iM_place iM_trouble rM_letters iM_failed iM_hasCourt rM_r rM_fresh rM_told rM_read rM_st rM_undone rM_kept iM_undos iM_images rM_fresher iM_fresherSize iM_scale iM_night rM_heardRow rM_cutRow iM_breaths iM_cutMany iM_allBreaths rM_trial rM_words iM_fewestBreaths iM_orderMany iM_orderSum iM_leastOrder rM_often iM_setMany iM_someOf iM_allOf iM_allWeight iM_enoughWeight iM_worthSum iM_firstRest iM_leastDrawn), (arI rM_r kM_r 287 fM_r), (arI rM_told kM_told 90 fM_told), (arI rM_st kM_st 90 fM_st), (arI rM_trial kM_trial 90 f_1880), (arI rM_words kM_words 10 f_1874)] H → va_D A [(oc7 oM iM_thrown rM_tape iM_taped iM_size iM_at iM_end iM_token iM_whole iM_nameSize iM_fault iM_place iM_trouble rM_letters iM_failed iM_hasCourt rM_r rM_fresh rM_told rM_read rM_st rM_undone rM_kept iM_undos iM_images rM_fresher iM_fresherSize iM_scale iM_night rM_heardRow rM_cutRow iM_breaths iM_cutMany iM_allBreaths rM_trial rM_words iM_fewestBreaths iM_orderMany iM_orderSum iM_leastOrder rM_often iM_setMany iM_someOf iM_allOf iM_allWeight iM_enoughWeight iM_worthSum iM_firstRest iM_leastDrawn), (arI rM_r kM_r 287 fM_r), (arI rM_told kM_told 90 fM_told), (arI rM_st kM_st 90 fM_st), (arI rM_trial kM_trial 90 f_1880), (arI rM_words kM_words 10 f_1874)] → va_S A s.heap H locs → lv_has ls 8 [(7, .int z_1885), (6, .int z_1886), (5, .int z_1878), (4, .int z_1879), (3, .int z_1873), (0, .ref oM), (1, .int p0), (2, .int p1)] → W p l e (headSpec (Cond.code yX7_fewestFor cX7_fewestFor 8 (some .int) :: wG) ({ frames := 24, cells := 0, slots := 0, locals := 631 })).room s m ([.ref oM, .int p0, .int p1] : List Value).toArray below meth c H locs 0 0 (MQ below (va_Qi (fun (r : Int32) (u : Nat) => (True ∧ True) ∧ r = Int32.ofNat u) (fun (u : Nat) (t : State) => ∃ (nfM_trial : Nat → Int32) (nfM_words : Nat → Int32), (PX7_fewestFor fM_r fM_told fM_st iM_scale iM_night fM_trial fM_words p0 p1 = (Int32.ofNat u, nfM_trial, nfM_words)) ∧ Bw dC dI A [(oc7 oM iM_thrown rM_tape iM_taped iM_size iM_at iM_end iM_token iM_whole iM_nameSize iM_fault iM_place iM_trouble rM_letters iM_failed iM_hasCourt rM_r rM_fresh rM_told rM_read rM_st rM_undone rM_kept iM_undos iM_images rM_fresher iM_fresherSize iM_scale iM_night rM_heardRow rM_cutRow iM_breaths iM_cutMany iM_allBreaths rM_trial rM_words iM_fewestBreaths iM_orderMany iM_orderSum iM_leastOrder rM_often iM_setMany iM_someOf iM_allOf iM_allWeight iM_enoughWeight iM_worthSum iM_firstRest iM_leastDrawn), (arI rM_r kM_r 287 fM_r), (arI rM_told kM_told 90 fM_told), (arI rM_st kM_st 90 fM_st), (arI rM_trial kM_trial 90 nfM_trial), (arI rM_words kM_words 10 nfM_words)] [(kM_r, .int), (kM_told, .int), (kM_st, .int), (kM_trial, .int), (kM_words, .int)] t) A) ([.ref oM, .int p0, .int p1] : List Value).toArray s 0 0 A) (F0 m 91 ls []) := by
                  intro n_1887
                  induction n_1887 with
                  | zero => intro z_1885 z_1886 H locs ls hi0_n_1887 hm; exact absurd hm (by omega)
                  | succ n_1887 ih_n_1887 =>
                    intro z_1885 z_1886 H locs ls hi0_n_1887 hm hG hP hD hS hl
                    have hG := hG.trans (HX7_fewestFor_2_eq _ _ _ _ _ _ _ _ _ _ _ _ _ _ _ _)
                    have rg_z_1885 := fb_rng z_1885
                    have rg_z_1886 := fb_rng z_1886
                    refine lv_iload hx hb dX7_fewestFor_91 (lv_at hl 0 rfl) ?_
                    refine lv_iload_n hx hb dX7_fewestFor_93 rfl (lv_at hl 4 rfl) ?_
                    refine lv_icmp_ge (tgt := 131) hx hb dX7_fewestFor_94 (by decide) (fun c_1888 => ?_) (fun c_1888 => ?_)
                    · skip
                      have hG := hG.trans (if_pos c_1888)
                      have gc_1888 := ti_le c_1888 rfl rfl
                      refine lv_aload_n hx hb dX7_fewestFor_131 rfl (lv_at hl 5 rfl) ?_
                      refine lv_iload hx hb dX7_fewestFor_132 (lv_at hl 1 rfl) ?_
                      refine lv_iload_n hx hb dX7_fewestFor_134 rfl (lv_at hl 6 rfl) ?_
                      refine lv_iload_n hx hb dX7_fewestFor_135 rfl (lv_at hl 7 rfl) ?_
                      have hFc := va_free (wc := [(oc7 oM iM_thrown rM_tape iM_taped iM_size iM_at iM_end iM_token iM_whole iM_nameSize iM_fault iM_place iM_trouble rM_letters iM_failed iM_hasCourt rM_r rM_fresh rM_told rM_read rM_st rM_undone rM_kept iM_undos iM_images rM_fresher iM_fresherSize iM_scale iM_night rM_heardRow rM_cutRow iM_breaths iM_cutMany iM_allBreaths rM_trial rM_words iM_fewestBreaths iM_orderMany iM_orderSum iM_leastOrder rM_often iM_setMany iM_someOf iM_allOf iM_allWeight iM_enoughWeight iM_worthSum iM_firstRest iM_leastDrawn), (arI rM_r kM_r 287 fM_r), (arI rM_told kM_told 90 fM_told), (arI rM_st kM_st 90 fM_st), (arI rM_trial kM_trial 90 f_1880)]) hD hS hA [0, 1, 2, 3, 4] rfl
                      refine va_calli (va_runV (As := [.int z_1886, .int p0, .int p1]) (rest := []) ⟨hx, hb, hml, hown, hts⟩ (tX7_doesProve l dC dI _ oM iM_thrown rM_tape iM_taped iM_size iM_at iM_end iM_token iM_whole iM_nameSize iM_fault iM_place iM_trouble rM_letters iM_failed iM_hasCourt rM_r fM_r kM_r rM_fresh rM_told fM_told kM_told rM_read rM_st fM_st kM_st rM_undone rM_kept iM_undos iM_images rM_fresher iM_fresherSize iM_scale iM_night rM_heardRow rM_cutRow iM_breaths iM_cutMany iM_allBreaths rM_trial f_1880 kM_trial rM_words iM_fewestBreaths iM_orderMany iM_orderSum iM_leastOrder rM_often iM_setMany iM_someOf iM_allOf iM_allWeight iM_enoughWeight iM_worthSum iM_firstRest iM_leastDrawn z_1886 p0 p1 (by first | omega | decide) (by first | omega | decide) (by first | omega | decide) (by first | omega | decide) (by first | omega | decide) (by first | omega | decide) (by first | omega | decide) (by first | omega | decide) (by first | omega | decide) (by first | omega | decide) (by assumption) (by assumption) (by assumption) (by assumption) (by assumption) (by first | omega | decide | assumption | (have q0 := kc_0; have q1 := kc_1; omega) | (intro h; exact absurd h (by decide)))) (cwV 3 hts (wd_V wd_971 wd_972 wd_973 wd_5 (wd_c wd_974)) rfl rfl rfl (by decide +kernel) ⟨Nat.le_of_ble_eq_true rfl, Nat.le_of_ble_eq_true rfl⟩) ⟨Pw.fb, va_recv hK hP (ci := 7) (q0 := 0) rfl rfl, fun U hU hW => Pw.to (hP.sub [0, 1, 2, 3, 4] rfl) (hD.sub [0, 1, 2, 3, 4] (by decide) rfl) (hK.sub [0, 1, 2, 3] rfl) hE hS hFc hU hW⟩ rfl rfl hl.1 rfl (lv_room (Nat.le_of_ble_eq_true rfl)) dX7_fewestFor_136 ⟨Nat.le_of_ble_eq_true rfl, Nat.le_of_ble_eq_true rfl⟩) hS (fun q _ h => hFc q h) hFc (fun r u t H locs ht hvm hw hB hz1 hk1 hS => ?_)
                      have hru9 := hw.2
                      have hw := hw.1
                      obtain ⟨f_1889, e_f_1889_0, hB⟩ := hB
                      obtain ⟨hP, hD, hK⟩ := Bw.go (ws' := [(arI rM_words kM_words 10 f_1874), (oc7 oM iM_thrown rM_tape iM_taped iM_size iM_at iM_end iM_token iM_whole iM_nameSize iM_fault iM_place iM_trouble rM_letters iM_failed iM_hasCourt rM_r rM_fresh rM_told rM_read rM_st rM_undone rM_kept iM_undos iM_images rM_fresher iM_fresherSize iM_scale iM_night rM_heardRow rM_cutRow iM_breaths iM_cutMany iM_allBreaths rM_trial rM_words iM_fewestBreaths iM_orderMany iM_orderSum iM_leastOrder rM_often iM_setMany iM_someOf iM_allOf iM_allWeight iM_enoughWeight iM_worthSum iM_firstRest iM_leastDrawn), (arI rM_r kM_r 287 fM_r), (arI rM_told kM_told 90 fM_told), (arI rM_st kM_st 90 fM_st), (arI rM_trial kM_trial 90 f_1889)]) (tys' := [(kM_words, .int), (kM_r, .int), (kM_told, .int), (kM_st, .int), (kM_trial, .int)]) hB rfl ht hvm hP hD hK [0, 1, 2, 3, 4] [5] rfl (by decide) (by decide) [4] hk1 hFc rfl rfl rfl
                      clear hz1 hk1 hvm ht hB
                      rw [← hru9] at e_f_1889_0
                      obtain ⟨x_1890, rfl⟩ : ∃ z, z = r := ⟨_, rfl⟩
                      have hG := hG.trans (un2_eq e_f_1889_0)
                      have rg_x_1890 := fb_rng x_1890
                      have bx_1890 := hw.1
                      have dx_1890 := bz_ti bx_1890
                      refine lv_if_eq (tgt := 146) hx hb dX7_fewestFor_139 (by decide) (fun c_1891 => ?_) (fun c_1891 => ?_)
                      · skip
                        have hG := hG.trans (if_pos c_1891)
                        have gc_1891 := ti_eq c_1891 rfl kc_0
                        obtain ⟨x_1892, ex_1892⟩ : ∃ z : Int32, z = z_1878 + Int32.ofInt 1 := ⟨_, rfl⟩
                        have hG := hG.trans (lt_eq ex_1892)
                        have vx_1892 : x_1892.toInt = z_1878.toInt + 1 := by have q := ti_add (y := 1) ex_1892 rfl kc_1 (by omega) (by omega); omega
                        refine lv_iinc (v := x_1892) (lv' := [(5, .int x_1892), (7, .int z_1885), (6, .int z_1886), (4, .int z_1879), (3, .int z_1873), (0, .ref oM), (1, .int p0), (2, .int p1)]) hx hb dX7_fewestFor_146 hl (k := 2) rfl ex_1892.symm (by decide) rfl (fun ls hl => ?_)
                        refine lv_goto (tgt := 56) hx hb dX7_fewestFor_149 (by decide) ?_
                        exact ih_n_1881 x_1892 z_1879 f_1889 _ _ _  (by first | omega | decide | assumption) (by omega) hG (hP.sub [1, 2, 3, 4, 5, 0] rfl) (hD.sub [1, 2, 3, 4, 5, 0] (by decide) rfl) hS (lv_sub hl [0, 3, 4, 5, 6, 7] rfl)
                      · skip
                        have hG := hG.trans (if_neg c_1891)
                        have gc_1891 := ti_ne c_1891 rfl kc_0
                        refine lv_iload hx hb dX7_fewestFor_142 (lv_at hl 1 rfl) ?_
                        refine lv_istore (lv' := [(4, .int z_1886), (7, .int z_1885), (6, .int z_1886), (5, .int z_1878), (3, .int z_1873), (0, .ref oM), (1, .int p0), (2, .int p1)]) hx hb dX7_fewestFor_144 hl (by decide) rfl (fun ls hl => ?_)
                        obtain ⟨x_1893, ex_1893⟩ : ∃ z : Int32, z = z_1878 + Int32.ofInt 1 := ⟨_, rfl⟩
                        have hG := hG.trans (lt_eq ex_1893)
                        have vx_1893 : x_1893.toInt = z_1878.toInt + 1 := by have q := ti_add (y := 1) ex_1893 rfl kc_1 (by omega) (by omega); omega
                        refine lv_iinc (v := x_1893) (lv' := [(5, .int x_1893), (4, .int z_1886), (7, .int z_1885), (6, .int z_1886), (3, .int z_1873), (0, .ref oM), (1, .int p0), (2, .int p1)]) hx hb dX7_fewestFor_146 hl (k := 3) rfl ex_1893.symm (by decide) rfl (fun ls hl => ?_)
                        refine lv_goto (tgt := 56) hx hb dX7_fewestFor_149 (by decide) ?_
                        exact ih_n_1881 x_1893 z_1886 f_1889 _ _ _  (by first | omega | decide | assumption) (by omega) hG (hP.sub [1, 2, 3, 4, 5, 0] rfl) (hD.sub [1, 2, 3, 4, 5, 0] (by decide) rfl) hS (lv_sub hl [0, 1, 4, 5, 6, 7] rfl)
                    · skip
                      have hG := hG.trans (if_neg c_1888)
                      have gc_1888 := ti_nle c_1888 rfl rfl
                      refine lv_iload hx hb dX7_fewestFor_97 (lv_at hl 1 rfl) ?_
                      refine lv_iload hx hb dX7_fewestFor_99 (lv_at hl 2 rfl) ?_
                      refine lv_iload hx hb dX7_fewestFor_101 (lv_at hl 0 rfl) ?_
                      have hFc : ∀ q, va_A [] _ q → A q := fun q h => hA q (Nat.le_trans hS.1 (va_nilA h))
                      refine va_calli (va_runS (As := [.int z_1878, .int z_1885]) (rest := [.int z_1886]) ⟨hx, hb, hml, hown, hts⟩ (tX7_hasBit l dC dI _ z_1878 z_1885 ) (va_cwS 2 hts (wd_S wd_968 wd_969 wd_5 (wd_c wd_970)) rfl rfl rfl (by decide +kernel) ⟨Nat.le_of_ble_eq_true rfl, Nat.le_of_ble_eq_true rfl⟩) ⟨Pw.fb, fun U hU hW => Pn.to hK hE hS hA hU hW⟩ rfl rfl hl.1 rfl (lv_room (Nat.le_of_ble_eq_true rfl)) dX7_fewestFor_103 ⟨Nat.le_of_ble_eq_true rfl, Nat.le_of_ble_eq_true rfl⟩) hS (fun q _ h => hFc q h) hFc (fun r u t H locs ht hvm hw hB hz1 hk1 hS => ?_)
                      obtain ⟨hP, hD, hK⟩ := Bw.same ht hvm hP hD hK hk1 hFc
                      clear hz1 hk1 hvm ht hB
                      have hq9 := hw.2
                      have hw := hw.1
                      obtain ⟨x_1894, rfl⟩ : ∃ z, z = r := ⟨_, rfl⟩
                      have hq_x_1894 := hq9
                      have hG := hG.trans (lt_eq hq_x_1894.symm)
                      have rg_x_1894 := fb_rng x_1894
                      have bx_1894 := hw.1
                      have dx_1894 := bz_ti bx_1894
                      refine lv_if_eq (tgt := 121) hx hb dX7_fewestFor_106 (by decide) (fun c_1895 => ?_) (fun c_1895 => ?_)
                      · skip
                        have hG := hG.trans (if_pos c_1895)
                        have gc_1895 := ti_eq c_1895 rfl kc_0
                        refine lv_iconst (v := 0) hx hb dX7_fewestFor_121 (by decide) ?_
                        refine lv_ior hx hb dX7_fewestFor_122 ?_
                        refine lv_topi (fun x_1896 ex_1896 => ?_)
                        have hG := hG.trans (lt_eq ex_1896)
                        have rg_x_1896 := fb_rng x_1896
                        refine lv_istore (lv' := [(6, .int x_1896), (7, .int z_1885), (5, .int z_1878), (4, .int z_1879), (3, .int z_1873), (0, .ref oM), (1, .int p0), (2, .int p1)]) hx hb dX7_fewestFor_123 hl (by decide) rfl (fun ls hl => ?_)
                        obtain ⟨x_1897, ex_1897⟩ : ∃ z : Int32, z = z_1885 + Int32.ofInt 1 := ⟨_, rfl⟩
                        have hG := hG.trans (lt_eq ex_1897)
                        have vx_1897 : x_1897.toInt = z_1885.toInt + 1 := by have q := ti_add (y := 1) ex_1897 rfl kc_1 (by omega) (by omega); omega
                        refine lv_iinc (v := x_1897) (lv' := [(7, .int x_1897), (6, .int x_1896), (5, .int z_1878), (4, .int z_1879), (3, .int z_1873), (0, .ref oM), (1, .int p0), (2, .int p1)]) hx hb dX7_fewestFor_125 hl (k := 1) rfl ex_1897.symm (by decide) rfl (fun ls hl => ?_)
                        refine lv_goto (tgt := 91) hx hb dX7_fewestFor_128 (by decide) ?_
                        exact ih_n_1887 x_1897 x_1896 _ _ _  (by first | omega | decide | assumption) (by omega) hG (hP.sub [0, 1, 2, 3, 4, 5] rfl) (hD.sub [0, 1, 2, 3, 4, 5] (by decide) rfl) hS (lv_sub hl [0, 1, 2, 3, 4, 5, 6, 7] rfl)
                      · skip
                        have hG := hG.trans (if_neg c_1895)
                        have gc_1895 := ti_ne c_1895 rfl kc_0
                        refine lv_iconst (v := 1) hx hb dX7_fewestFor_109 (by decide) ?_
                        refine lv_aload_n hx hb dX7_fewestFor_110 rfl (lv_at hl 5 rfl) ?_
                        refine va_get (D := (dC, dI)) (ci := 7) (v := .ref rM_words) (C := RX7) (T := TX7) (N := 48) hx hb hts inX7 hown hK hP 0 rfl rfl 34 (by decide) (hts _ wd_168) (fun _ h9 => h9) rfl dX7_fewestFor_111 ?_
                        refine lv_iload hx hb dX7_fewestFor_114 (lv_at hl 0 rfl) ?_
                        refine va_iald hx hb hK hP 5 4 rfl rfl (ti_in rfl (by omega) (by omega)) dX7_fewestFor_116 ?_
                        refine lv_topi (fun x_1898 ex_1898 => ?_)
                        have hG := hG.trans (lt_eq ex_1898)
                        have rg_x_1898 := fb_rng x_1898
                        have kx_1898 : (f_1874 z_1885.toNatClampNeg).toInt = x_1898.toInt := by rw [ex_1898]
                        have cx_1898 := kx_1898
                        refine lv_ishl hx hb dX7_fewestFor_117 ?_
                        refine lv_topi (fun x_1899 ex_1899 => ?_)
                        have hG := hG.trans (lt_eq ex_1899)
                        have rg_x_1899 := fb_rng x_1899
                        refine lv_goto (tgt := 122) hx hb dX7_fewestFor_118 (by decide) ?_
                        refine lv_ior hx hb dX7_fewestFor_122 ?_
                        refine lv_topi (fun x_1900 ex_1900 => ?_)
                        have hG := hG.trans (lt_eq ex_1900)
                        have rg_x_1900 := fb_rng x_1900
                        refine lv_istore (lv' := [(6, .int x_1900), (7, .int z_1885), (5, .int z_1878), (4, .int z_1879), (3, .int z_1873), (0, .ref oM), (1, .int p0), (2, .int p1)]) hx hb dX7_fewestFor_123 hl (by decide) rfl (fun ls hl => ?_)
                        obtain ⟨x_1901, ex_1901⟩ : ∃ z : Int32, z = z_1885 + Int32.ofInt 1 := ⟨_, rfl⟩
                        have hG := hG.trans (lt_eq ex_1901)
                        have vx_1901 : x_1901.toInt = z_1885.toInt + 1 := by have q := ti_add (y := 1) ex_1901 rfl kc_1 (by omega) (by omega); omega
                        refine lv_iinc (v := x_1901) (lv' := [(7, .int x_1901), (6, .int x_1900), (5, .int z_1878), (4, .int z_1879), (3, .int z_1873), (0, .ref oM), (1, .int p0), (2, .int p1)]) hx hb dX7_fewestFor_125 hl (k := 1) rfl ex_1901.symm (by decide) rfl (fun ls hl => ?_)
                        refine lv_goto (tgt := 91) hx hb dX7_fewestFor_128 (by decide) ?_
                        exact ih_n_1887 x_1901 x_1900 _ _ _  (by first | omega | decide | assumption) (by omega) hG (hP.sub [0, 1, 2, 3, 4, 5] rfl) (hD.sub [0, 1, 2, 3, 4, 5] (by decide) rfl) hS (lv_sub hl [0, 1, 2, 3, 4, 5, 6, 7] rfl)
                exact key_n_1887 (((2147483647 - (0 : Int32).toInt).toNat) + 1) 0 0 _ _ _  (by first | omega | decide | assumption | (have q0 := kc_0; have q1 := kc_1; omega)) (by omega) hG hP hD hS hl
              · skip
                have hG := hG.trans (if_neg c_1884)
                have gc_1884 := ti_nlt c_1884 rfl kc_0
                refine lv_iload hx hb dX7_fewestFor_69 (lv_at hl 0 rfl) ?_
                have hFc : ∀ q, va_A [] _ q → A q := fun q h => hA q (Nat.le_trans hS.1 (va_nilA h))
                refine va_calli (va_runS (As := [.int z_1878]) (rest := []) ⟨hx, hb, hml, hown, hts⟩ (tX7_ones l dC dI _ z_1878 ) (va_cwS 1 hts (wd_S wd_965 wd_966 wd_5 (wd_c wd_967)) rfl rfl rfl (by decide +kernel) ⟨Nat.le_of_ble_eq_true rfl, Nat.le_of_ble_eq_true rfl⟩) ⟨Pw.fb, fun U hU hW => Pn.to hK hE hS hA hU hW⟩ rfl rfl hl.1 rfl (lv_room (Nat.le_of_ble_eq_true rfl)) dX7_fewestFor_71 ⟨Nat.le_of_ble_eq_true rfl, Nat.le_of_ble_eq_true rfl⟩) hS (fun q _ h => hFc q h) hFc (fun r u t H locs ht hvm hw hB hz1 hk1 hS => ?_)
                obtain ⟨hP, hD, hK⟩ := Bw.same ht hvm hP hD hK hk1 hFc
                clear hz1 hk1 hvm ht hB
                have hq9 := hw.2
                have hw := hw.1
                obtain ⟨x_1902, rfl⟩ : ∃ z, z = r := ⟨_, rfl⟩
                have hq_x_1902 := hq9
                have hG := hG.trans (lt_eq hq_x_1902.symm)
                have rg_x_1902 := fb_rng x_1902
                refine lv_iload hx hb dX7_fewestFor_74 (lv_at hl 1 rfl) ?_
                have hFc : ∀ q, va_A [] _ q → A q := fun q h => hA q (Nat.le_trans hS.1 (va_nilA h))
                refine va_calli (va_runS (As := [.int z_1879]) (rest := [.int x_1902]) ⟨hx, hb, hml, hown, hts⟩ (tX7_ones l dC dI _ z_1879 ) (va_cwS 1 hts (wd_S wd_965 wd_966 wd_5 (wd_c wd_967)) rfl rfl rfl (by decide +kernel) ⟨Nat.le_of_ble_eq_true rfl, Nat.le_of_ble_eq_true rfl⟩) ⟨Pw.fb, fun U hU hW => Pn.to hK hE hS hA hU hW⟩ rfl rfl hl.1 rfl (lv_room (Nat.le_of_ble_eq_true rfl)) dX7_fewestFor_76 ⟨Nat.le_of_ble_eq_true rfl, Nat.le_of_ble_eq_true rfl⟩) hS (fun q _ h => hFc q h) hFc (fun r u t H locs ht hvm hw hB hz1 hk1 hS => ?_)
                obtain ⟨hP, hD, hK⟩ := Bw.same ht hvm hP hD hK hk1 hFc
                clear hz1 hk1 hvm ht hB
                have hq9 := hw.2
                have hw := hw.1
                obtain ⟨x_1903, rfl⟩ : ∃ z, z = r := ⟨_, rfl⟩
                have hq_x_1903 := hq9
                have hG := hG.trans (lt_eq hq_x_1903.symm)
                have rg_x_1903 := fb_rng x_1903
                refine lv_icmp_lt (tgt := 85) hx hb dX7_fewestFor_79 (by decide) (fun c_1904 => ?_) (fun c_1904 => ?_)
                · skip
                  have hG := hG.trans (if_pos c_1904)
                  have gc_1904 := ti_lt c_1904 rfl rfl
                  refine lv_iconst (v := 0) hx hb dX7_fewestFor_85 (by decide) ?_
                  refine lv_istore (lv' := [(6, .int 0), (5, .int z_1878), (4, .int z_1879), (3, .int z_1873), (0, .ref oM), (1, .int p0), (2, .int p1)]) hx hb dX7_fewestFor_86 hl (by decide) rfl (fun ls hl => ?_)
                  refine lv_iconst (v := 0) hx hb dX7_fewestFor_88 (by decide) ?_
                  refine lv_istore (lv' := [(7, .int 0), (6, .int 0), (5, .int z_1878), (4, .int z_1879), (3, .int z_1873), (0, .ref oM), (1, .int p0), (2, .int p1)]) hx hb dX7_fewestFor_89 hl (by decide) rfl (fun ls hl => ?_)
                  have hl := lv_sub hl (l' := [(7, .int 0), (6, .int 0), (5, .int z_1878), (4, .int z_1879), (3, .int z_1873), (0, .ref oM), (1, .int p0), (2, .int p1)]) [0, 1, 2, 3, 4, 5, 6, 7] rfl
                  have key_n_1907 : ∀ (n_1907 : Nat) (z_1905 : Int32) (z_1906 : Int32) (H : Heap) (locs : List Loc) (ls : Array Slot), (0 ≤ z_1905.toInt ∧ z_1905.toInt ≤ 2147483647) → (2147483647 - z_1905.toInt).toNat < n_1907 → (PX7_fewestFor fM_r fM_told fM_st iM_scale iM_night fM_trial fM_words p0 p1 = HX7_fewestFor_2 fM_r fM_told fM_st iM_scale iM_night p0 p1 z_1873 f_1874 z_1878 z_1879 f_1880 (fun (z_1878 : Int32) (z_1879 : Int32) (f_1880 : Nat → Int32) => HX7_fewestFor_1 fM_r fM_told fM_st iM_scale iM_night p0 p1 z_1873 f_1874 n_1881 z_1878 z_1879 f_1880) n_1907 z_1905 z_1906) → va_P (dC, dI) vwCl [(oc7 oM iM_thrown rM_tape iM_taped iM_size iM_at iM_end iM_token iM_whole iM_nameSize iM_fault iM_place iM_trouble rM_letters iM_failed iM_hasCourt rM_r rM_fresh rM_told rM_read rM_st rM_undone rM_kept iM_undos iM_images rM_fresher iM_fresherSize iM_scale iM_night rM_heardRow rM_cutRow iM_breaths iM_cutMany iM_allBreaths rM_trial rM_words iM_fewestBreaths iM_orderMany iM_orderSum iM_leastOrder rM_often iM_setMany iM_someOf iM_allOf iM_allWeight iM_enoughWeight iM_worthSum iM_firstRest iM_leastDrawn), (arI rM_r kM_r 287 fM_r), (arI rM_told kM_told 90 fM_told), (arI rM_st kM_st 90 fM_st), (arI rM_trial kM_trial 90 f_1880), (arI rM_words kM_words 10 f_1874)] H → va_D A [(oc7 oM iM_thrown rM_tape iM_taped iM_size iM_at iM_end iM_token iM_whole iM_nameSize iM_fault iM_place iM_trouble rM_letters iM_failed iM_hasCourt rM_r rM_fresh rM_told rM_read rM_st rM_undone rM_kept iM_undos iM_images rM_fresher iM_fresherSize iM_scale iM_night rM_heardRow rM_cutRow iM_breaths iM_cutMany iM_allBreaths rM_trial rM_words iM_fewestBreaths iM_orderMany iM_orderSum iM_leastOrder rM_often iM_setMany iM_someOf iM_allOf iM_allWeight iM_enoughWeight iM_worthSum iM_firstRest iM_leastDrawn), (arI rM_r kM_r 287 fM_r), (arI rM_told kM_told 90 fM_told), (arI rM_st kM_st 90 fM_st), (arI rM_trial kM_trial 90 f_1880), (arI rM_words kM_words 10 f_1874)] → va_S A s.heap H locs → lv_has ls 8 [(7, .int z_1905), (6, .int z_1906), (5, .int z_1878), (4, .int z_1879), (3, .int z_1873), (0, .ref oM), (1, .int p0), (2, .int p1)] → W p l e (headSpec (Cond.code yX7_fewestFor cX7_fewestFor 8 (some .int) :: wG) ({ frames := 24, cells := 0, slots := 0, locals := 631 })).room s m ([.ref oM, .int p0, .int p1] : List Value).toArray below meth c H locs 0 0 (MQ below (va_Qi (fun (r : Int32) (u : Nat) => (True ∧ True) ∧ r = Int32.ofNat u) (fun (u : Nat) (t : State) => ∃ (nfM_trial : Nat → Int32) (nfM_words : Nat → Int32), (PX7_fewestFor fM_r fM_told fM_st iM_scale iM_night fM_trial fM_words p0 p1 = (Int32.ofNat u, nfM_trial, nfM_words)) ∧ Bw dC dI A [(oc7 oM iM_thrown rM_tape iM_taped iM_size iM_at iM_end iM_token iM_whole iM_nameSize iM_fault iM_place iM_trouble rM_letters iM_failed iM_hasCourt rM_r rM_fresh rM_told rM_read rM_st rM_undone rM_kept iM_undos iM_images rM_fresher iM_fresherSize iM_scale iM_night rM_heardRow rM_cutRow iM_breaths iM_cutMany iM_allBreaths rM_trial rM_words iM_fewestBreaths iM_orderMany iM_orderSum iM_leastOrder rM_often iM_setMany iM_someOf iM_allOf iM_allWeight iM_enoughWeight iM_worthSum iM_firstRest iM_leastDrawn), (arI rM_r kM_r 287 fM_r), (arI rM_told kM_told 90 fM_told), (arI rM_st kM_st 90 fM_st), (arI rM_trial kM_trial 90 nfM_trial), (arI rM_words kM_words 10 nfM_words)] [(kM_r, .int), (kM_told, .int), (kM_st, .int), (kM_trial, .int), (kM_words, .int)] t) A) ([.ref oM, .int p0, .int p1] : List Value).toArray s 0 0 A) (F0 m 91 ls []) := by
                    intro n_1907
                    induction n_1907 with
                    | zero => intro z_1905 z_1906 H locs ls hi0_n_1907 hm; exact absurd hm (by omega)
                    | succ n_1907 ih_n_1907 =>
                      intro z_1905 z_1906 H locs ls hi0_n_1907 hm hG hP hD hS hl
                      have hG := hG.trans (HX7_fewestFor_2_eq _ _ _ _ _ _ _ _ _ _ _ _ _ _ _ _)
                      have rg_z_1905 := fb_rng z_1905
                      have rg_z_1906 := fb_rng z_1906
                      refine lv_iload hx hb dX7_fewestFor_91 (lv_at hl 0 rfl) ?_
                      refine lv_iload_n hx hb dX7_fewestFor_93 rfl (lv_at hl 4 rfl) ?_
                      refine lv_icmp_ge (tgt := 131) hx hb dX7_fewestFor_94 (by decide) (fun c_1908 => ?_) (fun c_1908 => ?_)
                      · skip
                        have hG := hG.trans (if_pos c_1908)
                        have gc_1908 := ti_le c_1908 rfl rfl
                        refine lv_aload_n hx hb dX7_fewestFor_131 rfl (lv_at hl 5 rfl) ?_
                        refine lv_iload hx hb dX7_fewestFor_132 (lv_at hl 1 rfl) ?_
                        refine lv_iload_n hx hb dX7_fewestFor_134 rfl (lv_at hl 6 rfl) ?_
                        refine lv_iload_n hx hb dX7_fewestFor_135 rfl (lv_at hl 7 rfl) ?_
                        have hFc := va_free (wc := [(oc7 oM iM_thrown rM_tape iM_taped iM_size iM_at iM_end iM_token iM_whole iM_nameSize iM_fault iM_place iM_trouble rM_letters iM_failed iM_hasCourt rM_r rM_fresh rM_told rM_read rM_st rM_undone rM_kept iM_undos iM_images rM_fresher iM_fresherSize iM_scale iM_night rM_heardRow rM_cutRow iM_breaths iM_cutMany iM_allBreaths rM_trial rM_words iM_fewestBreaths iM_orderMany iM_orderSum iM_leastOrder rM_often iM_setMany iM_someOf iM_allOf iM_allWeight iM_enoughWeight iM_worthSum iM_firstRest iM_leastDrawn), (arI rM_r kM_r 287 fM_r), (arI rM_told kM_told 90 fM_told), (arI rM_st kM_st 90 fM_st), (arI rM_trial kM_trial 90 f_1880)]) hD hS hA [0, 1, 2, 3, 4] rfl
                        refine va_calli (va_runV (As := [.int z_1906, .int p0, .int p1]) (rest := []) ⟨hx, hb, hml, hown, hts⟩ (tX7_doesProve l dC dI _ oM iM_thrown rM_tape iM_taped iM_size iM_at iM_end iM_token iM_whole iM_nameSize iM_fault iM_place iM_trouble rM_letters iM_failed iM_hasCourt rM_r fM_r kM_r rM_fresh rM_told fM_told kM_told rM_read rM_st fM_st kM_st rM_undone rM_kept iM_undos iM_images rM_fresher iM_fresherSize iM_scale iM_night rM_heardRow rM_cutRow iM_breaths iM_cutMany iM_allBreaths rM_trial f_1880 kM_trial rM_words iM_fewestBreaths iM_orderMany iM_orderSum iM_leastOrder rM_often iM_setMany iM_someOf iM_allOf iM_allWeight iM_enoughWeight iM_worthSum iM_firstRest iM_leastDrawn z_1906 p0 p1 (by first | omega | decide) (by first | omega | decide) (by first | omega | decide) (by first | omega | decide) (by first | omega | decide) (by first | omega | decide) (by first | omega | decide) (by first | omega | decide) (by first | omega | decide) (by first | omega | decide) (by assumption) (by assumption) (by assumption) (by assumption) (by assumption) (by first | omega | decide | assumption | (have q0 := kc_0; have q1 := kc_1; omega) | (intro h; exact absurd h (by decide)))) (cwV 3 hts (wd_V wd_971 wd_972 wd_973 wd_5 (wd_c wd_974)) rfl rfl rfl (by decide +kernel) ⟨Nat.le_of_ble_eq_true rfl, Nat.le_of_ble_eq_true rfl⟩) ⟨Pw.fb, va_recv hK hP (ci := 7) (q0 := 0) rfl rfl, fun U hU hW => Pw.to (hP.sub [0, 1, 2, 3, 4] rfl) (hD.sub [0, 1, 2, 3, 4] (by decide) rfl) (hK.sub [0, 1, 2, 3] rfl) hE hS hFc hU hW⟩ rfl rfl hl.1 rfl (lv_room (Nat.le_of_ble_eq_true rfl)) dX7_fewestFor_136 ⟨Nat.le_of_ble_eq_true rfl, Nat.le_of_ble_eq_true rfl⟩) hS (fun q _ h => hFc q h) hFc (fun r u t H locs ht hvm hw hB hz1 hk1 hS => ?_)
                        have hru9 := hw.2
                        have hw := hw.1
                        obtain ⟨f_1909, e_f_1909_0, hB⟩ := hB
                        obtain ⟨hP, hD, hK⟩ := Bw.go (ws' := [(arI rM_words kM_words 10 f_1874), (oc7 oM iM_thrown rM_tape iM_taped iM_size iM_at iM_end iM_token iM_whole iM_nameSize iM_fault iM_place iM_trouble rM_letters iM_failed iM_hasCourt rM_r rM_fresh rM_told rM_read rM_st rM_undone rM_kept iM_undos iM_images rM_fresher iM_fresherSize iM_scale iM_night rM_heardRow rM_cutRow iM_breaths iM_cutMany iM_allBreaths rM_trial rM_words iM_fewestBreaths iM_orderMany iM_orderSum iM_leastOrder rM_often iM_setMany iM_someOf iM_allOf iM_allWeight iM_enoughWeight iM_worthSum iM_firstRest iM_leastDrawn), (arI rM_r kM_r 287 fM_r), (arI rM_told kM_told 90 fM_told), (arI rM_st kM_st 90 fM_st), (arI rM_trial kM_trial 90 f_1909)]) (tys' := [(kM_words, .int), (kM_r, .int), (kM_told, .int), (kM_st, .int), (kM_trial, .int)]) hB rfl ht hvm hP hD hK [0, 1, 2, 3, 4] [5] rfl (by decide) (by decide) [4] hk1 hFc rfl rfl rfl
                        clear hz1 hk1 hvm ht hB
                        rw [← hru9] at e_f_1909_0
                        obtain ⟨x_1910, rfl⟩ : ∃ z, z = r := ⟨_, rfl⟩
                        have hG := hG.trans (un2_eq e_f_1909_0)
                        have rg_x_1910 := fb_rng x_1910
                        have bx_1910 := hw.1
                        have dx_1910 := bz_ti bx_1910
                        refine lv_if_eq (tgt := 146) hx hb dX7_fewestFor_139 (by decide) (fun c_1911 => ?_) (fun c_1911 => ?_)
                        · skip
                          have hG := hG.trans (if_pos c_1911)
                          have gc_1911 := ti_eq c_1911 rfl kc_0
                          obtain ⟨x_1912, ex_1912⟩ : ∃ z : Int32, z = z_1878 + Int32.ofInt 1 := ⟨_, rfl⟩
                          have hG := hG.trans (lt_eq ex_1912)
                          have vx_1912 : x_1912.toInt = z_1878.toInt + 1 := by have q := ti_add (y := 1) ex_1912 rfl kc_1 (by omega) (by omega); omega
                          refine lv_iinc (v := x_1912) (lv' := [(5, .int x_1912), (7, .int z_1905), (6, .int z_1906), (4, .int z_1879), (3, .int z_1873), (0, .ref oM), (1, .int p0), (2, .int p1)]) hx hb dX7_fewestFor_146 hl (k := 2) rfl ex_1912.symm (by decide) rfl (fun ls hl => ?_)
                          refine lv_goto (tgt := 56) hx hb dX7_fewestFor_149 (by decide) ?_
                          exact ih_n_1881 x_1912 z_1879 f_1909 _ _ _  (by first | omega | decide | assumption) (by omega) hG (hP.sub [1, 2, 3, 4, 5, 0] rfl) (hD.sub [1, 2, 3, 4, 5, 0] (by decide) rfl) hS (lv_sub hl [0, 3, 4, 5, 6, 7] rfl)
                        · skip
                          have hG := hG.trans (if_neg c_1911)
                          have gc_1911 := ti_ne c_1911 rfl kc_0
                          refine lv_iload hx hb dX7_fewestFor_142 (lv_at hl 1 rfl) ?_
                          refine lv_istore (lv' := [(4, .int z_1906), (7, .int z_1905), (6, .int z_1906), (5, .int z_1878), (3, .int z_1873), (0, .ref oM), (1, .int p0), (2, .int p1)]) hx hb dX7_fewestFor_144 hl (by decide) rfl (fun ls hl => ?_)
                          obtain ⟨x_1913, ex_1913⟩ : ∃ z : Int32, z = z_1878 + Int32.ofInt 1 := ⟨_, rfl⟩
                          have hG := hG.trans (lt_eq ex_1913)
                          have vx_1913 : x_1913.toInt = z_1878.toInt + 1 := by have q := ti_add (y := 1) ex_1913 rfl kc_1 (by omega) (by omega); omega
                          refine lv_iinc (v := x_1913) (lv' := [(5, .int x_1913), (4, .int z_1906), (7, .int z_1905), (6, .int z_1906), (3, .int z_1873), (0, .ref oM), (1, .int p0), (2, .int p1)]) hx hb dX7_fewestFor_146 hl (k := 3) rfl ex_1913.symm (by decide) rfl (fun ls hl => ?_)
                          refine lv_goto (tgt := 56) hx hb dX7_fewestFor_149 (by decide) ?_
                          exact ih_n_1881 x_1913 z_1906 f_1909 _ _ _  (by first | omega | decide | assumption) (by omega) hG (hP.sub [1, 2, 3, 4, 5, 0] rfl) (hD.sub [1, 2, 3, 4, 5, 0] (by decide) rfl) hS (lv_sub hl [0, 1, 4, 5, 6, 7] rfl)
                      · skip
                        have hG := hG.trans (if_neg c_1908)
                        have gc_1908 := ti_nle c_1908 rfl rfl
                        refine lv_iload hx hb dX7_fewestFor_97 (lv_at hl 1 rfl) ?_
                        refine lv_iload hx hb dX7_fewestFor_99 (lv_at hl 2 rfl) ?_
                        refine lv_iload hx hb dX7_fewestFor_101 (lv_at hl 0 rfl) ?_
                        have hFc : ∀ q, va_A [] _ q → A q := fun q h => hA q (Nat.le_trans hS.1 (va_nilA h))
                        refine va_calli (va_runS (As := [.int z_1878, .int z_1905]) (rest := [.int z_1906]) ⟨hx, hb, hml, hown, hts⟩ (tX7_hasBit l dC dI _ z_1878 z_1905 ) (va_cwS 2 hts (wd_S wd_968 wd_969 wd_5 (wd_c wd_970)) rfl rfl rfl (by decide +kernel) ⟨Nat.le_of_ble_eq_true rfl, Nat.le_of_ble_eq_true rfl⟩) ⟨Pw.fb, fun U hU hW => Pn.to hK hE hS hA hU hW⟩ rfl rfl hl.1 rfl (lv_room (Nat.le_of_ble_eq_true rfl)) dX7_fewestFor_103 ⟨Nat.le_of_ble_eq_true rfl, Nat.le_of_ble_eq_true rfl⟩) hS (fun q _ h => hFc q h) hFc (fun r u t H locs ht hvm hw hB hz1 hk1 hS => ?_)
                        obtain ⟨hP, hD, hK⟩ := Bw.same ht hvm hP hD hK hk1 hFc
                        clear hz1 hk1 hvm ht hB
                        have hq9 := hw.2
                        have hw := hw.1
                        obtain ⟨x_1914, rfl⟩ : ∃ z, z = r := ⟨_, rfl⟩
                        have hq_x_1914 := hq9
                        have hG := hG.trans (lt_eq hq_x_1914.symm)
                        have rg_x_1914 := fb_rng x_1914
                        have bx_1914 := hw.1
                        have dx_1914 := bz_ti bx_1914
                        refine lv_if_eq (tgt := 121) hx hb dX7_fewestFor_106 (by decide) (fun c_1915 => ?_) (fun c_1915 => ?_)
                        · skip
                          have hG := hG.trans (if_pos c_1915)
                          have gc_1915 := ti_eq c_1915 rfl kc_0
                          refine lv_iconst (v := 0) hx hb dX7_fewestFor_121 (by decide) ?_
                          refine lv_ior hx hb dX7_fewestFor_122 ?_
                          refine lv_topi (fun x_1916 ex_1916 => ?_)
                          have hG := hG.trans (lt_eq ex_1916)
                          have rg_x_1916 := fb_rng x_1916
                          refine lv_istore (lv' := [(6, .int x_1916), (7, .int z_1905), (5, .int z_1878), (4, .int z_1879), (3, .int z_1873), (0, .ref oM), (1, .int p0), (2, .int p1)]) hx hb dX7_fewestFor_123 hl (by decide) rfl (fun ls hl => ?_)
                          obtain ⟨x_1917, ex_1917⟩ : ∃ z : Int32, z = z_1905 + Int32.ofInt 1 := ⟨_, rfl⟩
                          have hG := hG.trans (lt_eq ex_1917)
                          have vx_1917 : x_1917.toInt = z_1905.toInt + 1 := by have q := ti_add (y := 1) ex_1917 rfl kc_1 (by omega) (by omega); omega
                          refine lv_iinc (v := x_1917) (lv' := [(7, .int x_1917), (6, .int x_1916), (5, .int z_1878), (4, .int z_1879), (3, .int z_1873), (0, .ref oM), (1, .int p0), (2, .int p1)]) hx hb dX7_fewestFor_125 hl (k := 1) rfl ex_1917.symm (by decide) rfl (fun ls hl => ?_)
                          refine lv_goto (tgt := 91) hx hb dX7_fewestFor_128 (by decide) ?_
                          exact ih_n_1907 x_1917 x_1916 _ _ _  (by first | omega | decide | assumption) (by omega) hG (hP.sub [0, 1, 2, 3, 4, 5] rfl) (hD.sub [0, 1, 2, 3, 4, 5] (by decide) rfl) hS (lv_sub hl [0, 1, 2, 3, 4, 5, 6, 7] rfl)
                        · skip
                          have hG := hG.trans (if_neg c_1915)
                          have gc_1915 := ti_ne c_1915 rfl kc_0
                          refine lv_iconst (v := 1) hx hb dX7_fewestFor_109 (by decide) ?_
                          refine lv_aload_n hx hb dX7_fewestFor_110 rfl (lv_at hl 5 rfl) ?_
                          refine va_get (D := (dC, dI)) (ci := 7) (v := .ref rM_words) (C := RX7) (T := TX7) (N := 48) hx hb hts inX7 hown hK hP 0 rfl rfl 34 (by decide) (hts _ wd_168) (fun _ h9 => h9) rfl dX7_fewestFor_111 ?_
                          refine lv_iload hx hb dX7_fewestFor_114 (lv_at hl 0 rfl) ?_
                          refine va_iald hx hb hK hP 5 4 rfl rfl (ti_in rfl (by omega) (by omega)) dX7_fewestFor_116 ?_
                          refine lv_topi (fun x_1918 ex_1918 => ?_)
                          have hG := hG.trans (lt_eq ex_1918)
                          have rg_x_1918 := fb_rng x_1918
                          have kx_1918 : (f_1874 z_1905.toNatClampNeg).toInt = x_1918.toInt := by rw [ex_1918]
                          have cx_1918 := kx_1918
                          refine lv_ishl hx hb dX7_fewestFor_117 ?_
                          refine lv_topi (fun x_1919 ex_1919 => ?_)
                          have hG := hG.trans (lt_eq ex_1919)
                          have rg_x_1919 := fb_rng x_1919
                          refine lv_goto (tgt := 122) hx hb dX7_fewestFor_118 (by decide) ?_
                          refine lv_ior hx hb dX7_fewestFor_122 ?_
                          refine lv_topi (fun x_1920 ex_1920 => ?_)
                          have hG := hG.trans (lt_eq ex_1920)
                          have rg_x_1920 := fb_rng x_1920
                          refine lv_istore (lv' := [(6, .int x_1920), (7, .int z_1905), (5, .int z_1878), (4, .int z_1879), (3, .int z_1873), (0, .ref oM), (1, .int p0), (2, .int p1)]) hx hb dX7_fewestFor_123 hl (by decide) rfl (fun ls hl => ?_)
                          obtain ⟨x_1921, ex_1921⟩ : ∃ z : Int32, z = z_1905 + Int32.ofInt 1 := ⟨_, rfl⟩
                          have hG := hG.trans (lt_eq ex_1921)
                          have vx_1921 : x_1921.toInt = z_1905.toInt + 1 := by have q := ti_add (y := 1) ex_1921 rfl kc_1 (by omega) (by omega); omega
                          refine lv_iinc (v := x_1921) (lv' := [(7, .int x_1921), (6, .int x_1920), (5, .int z_1878), (4, .int z_1879), (3, .int z_1873), (0, .ref oM), (1, .int p0), (2, .int p1)]) hx hb dX7_fewestFor_125 hl (k := 1) rfl ex_1921.symm (by decide) rfl (fun ls hl => ?_)
                          refine lv_goto (tgt := 91) hx hb dX7_fewestFor_128 (by decide) ?_
                          exact ih_n_1907 x_1921 x_1920 _ _ _  (by first | omega | decide | assumption) (by omega) hG (hP.sub [0, 1, 2, 3, 4, 5] rfl) (hD.sub [0, 1, 2, 3, 4, 5] (by decide) rfl) hS (lv_sub hl [0, 1, 2, 3, 4, 5, 6, 7] rfl)
                  exact key_n_1907 (((2147483647 - (0 : Int32).toInt).toNat) + 1) 0 0 _ _ _  (by first | omega | decide | assumption | (have q0 := kc_0; have q1 := kc_1; omega)) (by omega) hG hP hD hS hl
                · skip
                  have hG := hG.trans (if_neg c_1904)
                  have gc_1904 := ti_nlt c_1904 rfl rfl
                  refine lv_goto (tgt := 146) hx hb dX7_fewestFor_82 (by decide) ?_
                  obtain ⟨x_1922, ex_1922⟩ : ∃ z : Int32, z = z_1878 + Int32.ofInt 1 := ⟨_, rfl⟩
                  have hG := hG.trans (lt_eq ex_1922)
                  have vx_1922 : x_1922.toInt = z_1878.toInt + 1 := by have q := ti_add (y := 1) ex_1922 rfl kc_1 (by omega) (by omega); omega
                  refine lv_iinc (v := x_1922) (lv' := [(5, .int x_1922), (4, .int z_1879), (3, .int z_1873), (0, .ref oM), (1, .int p0), (2, .int p1)]) hx hb dX7_fewestFor_146 hl (k := 0) rfl ex_1922.symm (by decide) rfl (fun ls hl => ?_)
                  refine lv_goto (tgt := 56) hx hb dX7_fewestFor_149 (by decide) ?_
                  exact ih_n_1881 x_1922 z_1879 f_1880 _ _ _  (by first | omega | decide | assumption) (by omega) hG (hP.sub [0, 1, 2, 3, 4, 5] rfl) (hD.sub [0, 1, 2, 3, 4, 5] (by decide) rfl) hS (lv_sub hl [0, 1, 2, 3, 4, 5] rfl)
        exact key_n_1881 (((2147483647 - (0 : Int32).toInt).toNat) + 1) 0 (-2) fM_trial _ _ _  (by first | omega | decide | assumption | (have q0 := kc_m2; have q1 := kc_0; have q2 := kc_1; omega)) (by omega) hG hP hD hS hl
      · skip
        have hG := hG.trans (if_neg c_1877)
        have gc_1877 := ti_nle c_1877 rfl rfl
        refine lv_aload_n hx hb dX7_fewestFor_16 rfl (lv_at hl 2 rfl) ?_
        refine va_get (D := (dC, dI)) (ci := 7) (v := .ref rM_r) (C := RX7) (T := TX7) (N := 48) hx hb hts inX7 hown hK hP 0 rfl rfl 15 (by decide) (hts _ wd_155) (fun _ h9 => h9) rfl dX7_fewestFor_17 ?_
        refine lv_bipush (v := 9) hx hb dX7_fewestFor_20 (by decide) ?_
        refine lv_iload hx hb dX7_fewestFor_22 (lv_at hl 0 rfl) ?_
        refine lv_iadd hx hb dX7_fewestFor_24 ?_
        refine lv_topi (fun x_1923 ex_1923 => ?_)
        have hG := hG.trans (lt_eq ex_1923)
        have vx_1923 : x_1923.toInt = z_1872.toInt + 9 := by have q := ti_add ex_1923 kc_9 rfl (by omega) (by omega); omega
        refine va_iald hx hb hK hP 1 0 rfl rfl (ti_in vx_1923 (by omega) (by omega)) dX7_fewestFor_25 ?_
        refine lv_topi (fun x_1924 ex_1924 => ?_)
        have hG := hG.trans (lt_eq ex_1924)
        have rg_x_1924 := fb_rng x_1924
        have kx_1924 : (fM_r x_1923.toNatClampNeg).toInt = x_1924.toInt := by rw [ex_1924]
        have cx_1924 : (fM_r (9 + z_1872.toNatClampNeg)).toInt = x_1924.toInt := by rw [show 9 + z_1872.toNatClampNeg = x_1923.toNatClampNeg from by have q9 := ti_cl (x := x_1923) vx_1923 (by omega); have q_z_1872 := ti_cl (x := z_1872) rfl (by omega); omega]; exact kx_1924
        have sx_1924 := r_R.kind x_1923.toNatClampNeg (by have q9 := ti_cl (x := x_1923) vx_1923 (by omega); omega) (by have q9 := ti_cl (x := x_1923) vx_1923 (by omega); omega)
        have ct9 := cnt_at (P := fun k => (fM_r (9 + k)).toInt = 0) z_1872.toNatClampNeg
        have cb9 := r_R.cw (z_1872.toNatClampNeg + 1) (by have q1 := ti_cl (x := z_1872) rfl (by omega); omega)
        rcases (show x_1924.toInt = 0 ∨ 1 ≤ x_1924.toInt by omega) with h9z | h9z
        · skip
          have ce9 := ct9.1 (by show (fM_r (9 + z_1872.toNatClampNeg)).toInt = 0; omega)
          refine lv_if_eq (tgt := 32) hx hb dX7_fewestFor_26 (by decide) (fun c_1925 => ?_) (fun c_1925 => ?_)
          · skip
            have hG := hG.trans (if_pos c_1925)
            have gc_1925 := ti_eq c_1925 rfl kc_0
            refine lv_aload_n hx hb dX7_fewestFor_32 rfl (lv_at hl 2 rfl) ?_
            refine va_get (D := (dC, dI)) (ci := 7) (v := .ref rM_words) (C := RX7) (T := TX7) (N := 48) hx hb hts inX7 hown hK hP 0 rfl rfl 34 (by decide) (hts _ wd_168) (fun _ h9 => h9) rfl dX7_fewestFor_33 ?_
            refine lv_iload_n hx hb dX7_fewestFor_36 rfl (lv_at hl 1 rfl) ?_
            refine lv_iload hx hb dX7_fewestFor_37 (lv_at hl 0 rfl) ?_
            refine va_iast hx hb hK hP hD hS 5 4 rfl rfl (ti_in rfl (by omega) (by omega)) dX7_fewestFor_39 (fun H locs hP hD hS => ?_)
            obtain ⟨f_1927, ef_1927⟩ : ∃ g : Nat → Int32, g = upd f_1874 z_1873.toNatClampNeg z_1872 := ⟨_, rfl⟩
            rw [← ef_1927] at hP hD
            have hG := hG.trans (lt_eq ef_1927)
            obtain ⟨hP, hD⟩ := wl2 (ws' := [(oc7 oM iM_thrown rM_tape iM_taped iM_size iM_at iM_end iM_token iM_whole iM_nameSize iM_fault iM_place iM_trouble rM_letters iM_failed iM_hasCourt rM_r rM_fresh rM_told rM_read rM_st rM_undone rM_kept iM_undos iM_images rM_fresher iM_fresherSize iM_scale iM_night rM_heardRow rM_cutRow iM_breaths iM_cutMany iM_allBreaths rM_trial rM_words iM_fewestBreaths iM_orderMany iM_orderSum iM_leastOrder rM_often iM_setMany iM_someOf iM_allOf iM_allWeight iM_enoughWeight iM_worthSum iM_firstRest iM_leastDrawn), (arI rM_r kM_r 287 fM_r), (arI rM_told kM_told 90 fM_told), (arI rM_st kM_st 90 fM_st), (arI rM_trial kM_trial 90 fM_trial), (arI rM_words kM_words 10 f_1927)]) hP hD rfl
            obtain ⟨x_1928, ex_1928⟩ : ∃ z : Int32, z = z_1873 + Int32.ofInt 1 := ⟨_, rfl⟩
            have hG := hG.trans (lt_eq ex_1928)
            have vx_1928 : x_1928.toInt = z_1873.toInt + 1 := by have q := ti_add (y := 1) ex_1928 rfl kc_1 (by omega) (by omega); omega
            refine lv_iinc (v := x_1928) (lv' := [(3, .int x_1928), (4, .int z_1872), (0, .ref oM), (1, .int p0), (2, .int p1)]) hx hb dX7_fewestFor_40 hl (k := 1) rfl ex_1928.symm (by decide) rfl (fun ls hl => ?_)
            obtain ⟨x_1929, ex_1929⟩ : ∃ z : Int32, z = z_1872 + Int32.ofInt 1 := ⟨_, rfl⟩
            have hG := hG.trans (lt_eq ex_1929)
            have vx_1929 : x_1929.toInt = z_1872.toInt + 1 := by have q := ti_add (y := 1) ex_1929 rfl kc_1 (by omega) (by omega); omega
            refine lv_iinc (v := x_1929) (lv' := [(4, .int x_1929), (3, .int x_1928), (0, .ref oM), (1, .int p0), (2, .int p1)]) hx hb dX7_fewestFor_43 hl (k := 1) rfl ex_1929.symm (by decide) rfl (fun ls hl => ?_)
            refine lv_goto (tgt := 5) hx hb dX7_fewestFor_46 (by decide) ?_
            exact ih_n_1875 x_1929 x_1928 f_1927 _ _ _  (by first | omega | decide | assumption) (by rw [show x_1929.toNatClampNeg = z_1872.toNatClampNeg + 1 from (by have q_1 := ti_cl (x := x_1929) vx_1929 (by omega); have q_2 := ti_cl (x := z_1872) rfl (by omega); omega)]; omega) (by omega) hG (hP.sub [0, 1, 2, 3, 4, 5] rfl) (hD.sub [0, 1, 2, 3, 4, 5] (by decide) rfl) hS (lv_sub hl [0, 1, 2, 3, 4] rfl)
          · skip
            have hG := hG.trans (if_neg c_1925)
            have gc_1925 := ti_ne c_1925 rfl kc_0
            exfalso; clear hG; omega
        · skip
          have ce9 := ct9.2 (by show ¬ (fM_r (9 + z_1872.toNatClampNeg)).toInt = 0; omega)
          refine lv_if_eq (tgt := 32) hx hb dX7_fewestFor_26 (by decide) (fun c_1930 => ?_) (fun c_1930 => ?_)
          · skip
            have hG := hG.trans (if_pos c_1930)
            have gc_1930 := ti_eq c_1930 rfl kc_0
            exfalso; clear hG; omega
          · skip
            have hG := hG.trans (if_neg c_1930)
            have gc_1930 := ti_ne c_1930 rfl kc_0
            refine lv_goto (tgt := 43) hx hb dX7_fewestFor_29 (by decide) ?_
            obtain ⟨x_1931, ex_1931⟩ : ∃ z : Int32, z = z_1872 + Int32.ofInt 1 := ⟨_, rfl⟩
            have hG := hG.trans (lt_eq ex_1931)
            have vx_1931 : x_1931.toInt = z_1872.toInt + 1 := by have q := ti_add (y := 1) ex_1931 rfl kc_1 (by omega) (by omega); omega
            refine lv_iinc (v := x_1931) (lv' := [(4, .int x_1931), (3, .int z_1873), (0, .ref oM), (1, .int p0), (2, .int p1)]) hx hb dX7_fewestFor_43 hl (k := 0) rfl ex_1931.symm (by decide) rfl (fun ls hl => ?_)
            refine lv_goto (tgt := 5) hx hb dX7_fewestFor_46 (by decide) ?_
            exact ih_n_1875 x_1931 z_1873 f_1874 _ _ _  (by first | omega | decide | assumption) (by rw [show x_1931.toNatClampNeg = z_1872.toNatClampNeg + 1 from (by have q_1 := ti_cl (x := x_1931) vx_1931 (by omega); have q_2 := ti_cl (x := z_1872) rfl (by omega); omega)]; omega) (by omega) hG (hP.sub [0, 1, 2, 3, 4, 5] rfl) (hD.sub [0, 1, 2, 3, 4, 5] (by decide) rfl) hS (lv_sub hl [0, 1, 2, 3, 4] rfl)
  exact key_n_1875 ((((fM_r 1).toInt - (0 : Int32).toInt).toNat) + 1) 0 0 fM_words _ _ _  (by first | omega | decide | assumption | (have q0 := kc_0; have q1 := kc_1; omega) | (show (0 : Int32).toInt = ((0 : Nat) : Int); decide) | exact rfl) (by first | omega | decide | assumption | (have q0 := kc_0; have q1 := kc_1; omega) | (show (0 : Int32).toInt = ((0 : Nat) : Int); decide) | exact rfl) (by omega) hG hP hD hS hl
set_option maxHeartbeats 4000000 in
set_option maxRecDepth 100000 in
theorem tX7_proof (l : Launch) (dC : Nat → ClassId) (dI : Nat → Nat → Nat) (sz : Nat) (oM : Nat) (iM_thrown : Int32) (rM_tape : Nat) (iM_taped : Int32) (iM_size : Int32) (iM_at : Int32) (iM_end : Int32) (iM_token : Int32) (iM_whole : Int32) (iM_nameSize : Int32) (iM_fault : Int32) (iM_place : Int32) (iM_trouble : Int32) (rM_letters : Nat) (iM_failed : Int32) (iM_hasCourt : Int32) (rM_r : Nat) (fM_r : Nat → Int32) (kM_r : ClassId) (rM_fresh : Nat) (rM_told : Nat) (fM_told : Nat → Int32) (kM_told : ClassId) (rM_read : Nat) (rM_st : Nat) (fM_st : Nat → Int32) (kM_st : ClassId) (rM_undone : Nat) (rM_kept : Nat) (iM_undos : Int32) (iM_images : Int32) (rM_fresher : Nat) (iM_fresherSize : Int32) (iM_scale : Int32) (iM_night : Int32) (rM_heardRow : Nat) (rM_cutRow : Nat) (iM_breaths : Int32) (iM_cutMany : Int32) (iM_allBreaths : Int32) (rM_trial : Nat) (fM_trial : Nat → Int32) (kM_trial : ClassId) (rM_words : Nat) (fM_words : Nat → Int32) (kM_words : ClassId) (iM_fewestBreaths : Int32) (iM_orderMany : Int32) (iM_orderSum : Int32) (iM_leastOrder : Int32) (rM_often : Nat) (iM_setMany : Int32) (iM_someOf : Int32) (iM_allOf : Int32) (iM_allWeight : Int64) (iM_enoughWeight : Int64) (iM_worthSum : Int64) (iM_firstRest : Int32) (iM_leastDrawn : Int32) (p0 : Int32) (b_iM_taped : 0 ≤ iM_taped.toInt ∧ iM_taped.toInt ≤ 900) (b_iM_size : 0 ≤ iM_size.toInt ∧ iM_size.toInt ≤ 900) (b_iM_end : 0 ≤ iM_end.toInt ∧ iM_end.toInt ≤ 900) (b_iM_failed : 0 ≤ iM_failed.toInt ∧ iM_failed.toInt ≤ 1) (b_iM_hasCourt : 0 ≤ iM_hasCourt.toInt ∧ iM_hasCourt.toInt ≤ 1) (b_iM_undos : 0 ≤ iM_undos.toInt ∧ iM_undos.toInt ≤ 16) (b_iM_images : 0 ≤ iM_images.toInt ∧ iM_images.toInt ≤ 3) (b_iM_scale : 1 ≤ iM_scale.toInt ∧ iM_scale.toInt ≤ 1296) (b_iM_breaths : 0 ≤ iM_breaths.toInt ∧ iM_breaths.toInt ≤ 399) (b_iM_cutMany : 0 ≤ iM_cutMany.toInt ∧ iM_cutMany.toInt ≤ 399) (r_R : ROk fM_r) (r_C : iM_hasCourt.toInt ≤ 0 ∨ (1 ≤ (fM_r 1).toInt ∧ 0 ≤ (fM_r 6).toInt ∧ (fM_r 6).toInt < (fM_r 1).toInt)) (r_st : RowOk fM_r fM_st) (r_told : RowOk fM_r fM_told) (r_wst : WorOk fM_st)  : Met l yX7_proof (Cond.code yX7_proof cX7_proof 3 (some .int) :: wG) ({ frames := 25, cells := 0, slots := 0, locals := 658 }) (va_Pc [.ref oM, .int p0] (Pw dC dI sz [(oc7 oM iM_thrown rM_tape iM_taped iM_size iM_at iM_end iM_token iM_whole iM_nameSize iM_fault iM_place iM_trouble rM_letters iM_failed iM_hasCourt rM_r rM_fresh rM_told rM_read rM_st rM_undone rM_kept iM_undos iM_images rM_fresher iM_fresherSize iM_scale iM_night rM_heardRow rM_cutRow iM_breaths iM_cutMany iM_allBreaths rM_trial rM_words iM_fewestBreaths iM_orderMany iM_orderSum iM_leastOrder rM_often iM_setMany iM_someOf iM_allOf iM_allWeight iM_enoughWeight iM_worthSum iM_firstRest iM_leastDrawn), (arI rM_r kM_r 287 fM_r), (arI rM_told kM_told 90 fM_told), (arI rM_st kM_st 90 fM_st), (arI rM_trial kM_trial 90 fM_trial), (arI rM_words kM_words 10 fM_words)] [(kM_r, .int), (kM_told, .int), (kM_st, .int), (kM_trial, .int), (kM_words, .int)])) (va_Qi (fun (r : Int32) (u : Nat) => (True ∧ True) ∧ r = Int32.ofNat u) (fun (u : Nat) (t : State) => ∃ (niM_thrown : Int32) (niM_trouble : Int32) (nfM_trial : Nat → Int32) (nfM_words : Nat → Int32), (PX7_proof iM_hasCourt fM_r fM_told fM_st iM_scale iM_night fM_trial fM_words p0 = (Int32.ofNat u, niM_thrown, niM_trouble, nfM_trial, nfM_words)) ∧ Bw dC dI (va_A [(oc7 oM iM_thrown rM_tape iM_taped iM_size iM_at iM_end iM_token iM_whole iM_nameSize iM_fault iM_place iM_trouble rM_letters iM_failed iM_hasCourt rM_r rM_fresh rM_told rM_read rM_st rM_undone rM_kept iM_undos iM_images rM_fresher iM_fresherSize iM_scale iM_night rM_heardRow rM_cutRow iM_breaths iM_cutMany iM_allBreaths rM_trial rM_words iM_fewestBreaths iM_orderMany iM_orderSum iM_leastOrder rM_often iM_setMany iM_someOf iM_allOf iM_allWeight iM_enoughWeight iM_worthSum iM_firstRest iM_leastDrawn), (arI rM_r kM_r 287 fM_r), (arI rM_told kM_told 90 fM_told), (arI rM_st kM_st 90 fM_st), (arI rM_trial kM_trial 90 fM_trial), (arI rM_words kM_words 10 fM_words)] sz) [(oc7 oM niM_thrown rM_tape iM_taped iM_size iM_at iM_end iM_token iM_whole iM_nameSize iM_fault iM_place niM_trouble rM_letters iM_failed iM_hasCourt rM_r rM_fresh rM_told rM_read rM_st rM_undone rM_kept iM_undos iM_images rM_fresher iM_fresherSize iM_scale iM_night rM_heardRow rM_cutRow iM_breaths iM_cutMany iM_allBreaths rM_trial rM_words iM_fewestBreaths iM_orderMany iM_orderSum iM_leastOrder rM_often iM_setMany iM_someOf iM_allOf iM_allWeight iM_enoughWeight iM_worthSum iM_firstRest iM_leastDrawn), (arI rM_r kM_r 287 fM_r), (arI rM_told kM_told 90 fM_told), (arI rM_st kM_st 90 fM_st), (arI rM_trial kM_trial 90 nfM_trial), (arI rM_words kM_words 10 nfM_words)] [(kM_r, .int), (kM_told, .int), (kM_st, .int), (kM_trial, .int), (kM_words, .int)] t) (va_A [(oc7 oM iM_thrown rM_tape iM_taped iM_size iM_at iM_end iM_token iM_whole iM_nameSize iM_fault iM_place iM_trouble rM_letters iM_failed iM_hasCourt rM_r rM_fresh rM_told rM_read rM_st rM_undone rM_kept iM_undos iM_images rM_fresher iM_fresherSize iM_scale iM_night rM_heardRow rM_cutRow iM_breaths iM_cutMany iM_allBreaths rM_trial rM_words iM_fewestBreaths iM_orderMany iM_orderSum iM_leastOrder rM_often iM_setMany iM_someOf iM_allOf iM_allWeight iM_enoughWeight iM_worthSum iM_firstRest iM_leastDrawn), (arI rM_r kM_r 287 fM_r), (arI rM_told kM_told 90 fM_told), (arI rM_st kM_st 90 fM_st), (arI rM_trial kM_trial 90 fM_trial), (arI rM_words kM_words 10 fM_words)] sz)) 0 0 (va_A [(oc7 oM iM_thrown rM_tape iM_taped iM_size iM_at iM_end iM_token iM_whole iM_nameSize iM_fault iM_place iM_trouble rM_letters iM_failed iM_hasCourt rM_r rM_fresh rM_told rM_read rM_st rM_undone rM_kept iM_undos iM_images rM_fresher iM_fresherSize iM_scale iM_night rM_heardRow rM_cutRow iM_breaths iM_cutMany iM_allBreaths rM_trial rM_words iM_fewestBreaths iM_orderMany iM_orderSum iM_leastOrder rM_often iM_setMany iM_someOf iM_allOf iM_allWeight iM_enoughWeight iM_worthSum iM_firstRest iM_leastDrawn), (arI rM_r kM_r 287 fM_r), (arI rM_told kM_told 90 fM_told), (arI rM_st kM_st 90 fM_st), (arI rM_trial kM_trial 90 fM_trial), (arI rM_words kM_words 10 fM_words)] sz) := by
  refine Met.ofW (cc := cX7_proof) (maxL := 3) (ret := (some .int)) (by decide) rfl ?_
  intro p e s m args below meth c s₁ B hml hv
  obtain ⟨rfl, hsz, hP, hK, hD0, hE⟩ := hv
  have hx := B.exec
  have hb := B.bytes
  have hr := B.returns
  have hts : ∀ w ∈ wG, w.before ([.ref oM, .int p0] : List Value).toArray s = true := fun w h => atoms_spec (ws := Cond.code yX7_proof cX7_proof 3 (some .int) :: wG) B.pre w (List.mem_cons_of_mem _ h)
  have hown : s.vm.findClass RX7 = some m.cls := findClass_of_methodNamed B.named
  have hlocks := B.notSynchronized
  subst hsz
  have hD := hD0.self (sz := s.heap.size)
  generalize hAe : va_A [(oc7 oM iM_thrown rM_tape iM_taped iM_size iM_at iM_end iM_token iM_whole iM_nameSize iM_fault iM_place iM_trouble rM_letters iM_failed iM_hasCourt rM_r rM_fresh rM_told rM_read rM_st rM_undone rM_kept iM_undos iM_images rM_fresher iM_fresherSize iM_scale iM_night rM_heardRow rM_cutRow iM_breaths iM_cutMany iM_allBreaths rM_trial rM_words iM_fewestBreaths iM_orderMany iM_orderSum iM_leastOrder rM_often iM_setMany iM_someOf iM_allOf iM_allWeight iM_enoughWeight iM_worthSum iM_firstRest iM_leastDrawn), (arI rM_r kM_r 287 fM_r), (arI rM_told kM_told 90 fM_told), (arI rM_st kM_st 90 fM_st), (arI rM_trial kM_trial 90 fM_trial), (arI rM_words kM_words 10 fM_words)] s.heap.size = A at hD hE ⊢
  have hA : ∀ q : Nat, s.heap.size ≤ q → A q := fun q h => by rw [← hAe]; exact Or.inr h
  have hS : va_S A s.heap s.heap [] := va_S.rf
  have hl := lv_entry ([.ref oM, .int p0]) (n := 3) (Nat.le_of_ble_eq_true rfl)
  rw [lg_entry_eq]
  generalize (lg_sl ([.ref oM, .int p0]) ++ List.replicate (3 - (lg_sl ([.ref oM, .int p0])).length) Slot.unset).toArray = ls at hl ⊢
  have hl : lv_has ls 3 [(0, .ref oM), (1, .int p0)] := hl
  have hG := PX7_proof_eq iM_hasCourt fM_r fM_told fM_st iM_scale iM_night fM_trial fM_words p0
  have s_slips := r_R.slips
  have s_nodes := r_R.nodes
  have s_uns := r_R.uns
  refine lv_aload_n hx hb dX7_proof_0 rfl (lv_at hl 0 rfl) ?_
  have hFc := va_free (wc := [(oc7 oM iM_thrown rM_tape iM_taped iM_size iM_at iM_end iM_token iM_whole iM_nameSize iM_fault iM_place iM_trouble rM_letters iM_failed iM_hasCourt rM_r rM_fresh rM_told rM_read rM_st rM_undone rM_kept iM_undos iM_images rM_fresher iM_fresherSize iM_scale iM_night rM_heardRow rM_cutRow iM_breaths iM_cutMany iM_allBreaths rM_trial rM_words iM_fewestBreaths iM_orderMany iM_orderSum iM_leastOrder rM_often iM_setMany iM_someOf iM_allOf iM_allWeight iM_enoughWeight iM_worthSum iM_firstRest iM_leastDrawn)]) hD hS hA [0] rfl
  refine va_callv (va_runV (As := []) (rest := []) ⟨hx, hb, hml, hown, hts⟩ (tX7_good l dC dI _ oM iM_thrown rM_tape iM_taped iM_size iM_at iM_end iM_token iM_whole iM_nameSize iM_fault iM_place iM_trouble rM_letters iM_failed iM_hasCourt rM_r rM_fresh rM_told rM_read rM_st rM_undone rM_kept iM_undos iM_images rM_fresher iM_fresherSize iM_scale iM_night rM_heardRow rM_cutRow iM_breaths iM_cutMany iM_allBreaths rM_trial rM_words iM_fewestBreaths iM_orderMany iM_orderSum iM_leastOrder rM_often iM_setMany iM_someOf iM_allOf iM_allWeight iM_enoughWeight iM_worthSum iM_firstRest iM_leastDrawn (by first | omega | decide) (by first | omega | decide) (by first | omega | decide) (by first | omega | decide) (by first | omega | decide) (by first | omega | decide) (by first | omega | decide) (by first | omega | decide) (by first | omega | decide) (by first | omega | decide)) (cwV 0 hts (wd_V wd_388 wd_389 wd_390 wd_5 (wd_c wd_391)) rfl rfl rfl (by decide +kernel) ⟨Nat.le_of_ble_eq_true rfl, Nat.le_of_ble_eq_true rfl⟩) ⟨Pw.fb, va_recv hK hP (ci := 7) (q0 := 0) rfl rfl, fun U hU hW => Pw.to (hP.sub [0] rfl) (hD.sub [0] (by decide) rfl) (hK.sub [] rfl) hE hS hFc hU hW⟩ rfl rfl hl.1 rfl (lv_room (Nat.le_of_ble_eq_true rfl)) dX7_proof_1 ⟨Nat.le_of_ble_eq_true rfl, Nat.le_of_ble_eq_true rfl⟩) hS (fun q _ h => hFc q h) hFc (fun u t H locs ht hvm hw hB hz1 hk1 hS => ?_)
  obtain ⟨x_1946, x_1947, b_x_1946, b_x_1947, e_x_1946_0, hB⟩ := hB
  obtain ⟨hP, hD, hK⟩ := Bw.go (ws' := [(arI rM_r kM_r 287 fM_r), (arI rM_told kM_told 90 fM_told), (arI rM_st kM_st 90 fM_st), (arI rM_trial kM_trial 90 fM_trial), (arI rM_words kM_words 10 fM_words), (oc7 oM x_1946 rM_tape iM_taped iM_size iM_at iM_end iM_token iM_whole iM_nameSize iM_fault iM_place x_1947 rM_letters iM_failed iM_hasCourt rM_r rM_fresh rM_told rM_read rM_st rM_undone rM_kept iM_undos iM_images rM_fresher iM_fresherSize iM_scale iM_night rM_heardRow rM_cutRow iM_breaths iM_cutMany iM_allBreaths rM_trial rM_words iM_fewestBreaths iM_orderMany iM_orderSum iM_leastOrder rM_often iM_setMany iM_someOf iM_allOf iM_allWeight iM_enoughWeight iM_worthSum iM_firstRest iM_leastDrawn)]) (tys' := [(kM_r, .int), (kM_told, .int), (kM_st, .int), (kM_trial, .int), (kM_words, .int)]) hB rfl ht hvm hP hD hK [0] [1, 2, 3, 4, 5] rfl (by decide) (by decide) [0, 1, 2, 3, 4] hk1 hFc rfl rfl rfl
  clear hz1 hk1 hvm ht hB
  have hG := hG.trans (un2_eq e_x_1946_0)
  refine lv_aload_n hx hb dX7_proof_4 rfl (lv_at hl 0 rfl) ?_
  refine lv_iload_n hx hb dX7_proof_5 rfl (lv_at hl 1 rfl) ?_
  refine lv_iconst (v := 0) hx hb dX7_proof_6 (by decide) ?_
  refine lv_bipush (v := 100) hx hb dX7_proof_7 (by decide) ?_
  have hFc : ∀ q, va_A [] _ q → A q := fun q h => hA q (Nat.le_trans hS.1 (va_nilA h))
  refine va_calli (va_runS (As := [.int p0, .int 0, .int 100]) (rest := [.ref oM]) ⟨hx, hb, hml, hown, hts⟩ (tX7_in l dC dI _ p0 0 100 ) (va_cwS 3 hts (wd_S wd_393 wd_394 wd_5 (wd_c wd_395)) rfl rfl rfl (by decide +kernel) ⟨Nat.le_of_ble_eq_true rfl, Nat.le_of_ble_eq_true rfl⟩) ⟨Pw.fb, fun U hU hW => Pn.to hK hE hS hA hU hW⟩ rfl rfl hl.1 rfl (lv_room (Nat.le_of_ble_eq_true rfl)) dX7_proof_9 ⟨Nat.le_of_ble_eq_true rfl, Nat.le_of_ble_eq_true rfl⟩) hS (fun q _ h => hFc q h) hFc (fun r u t H locs ht hvm hw hB hz1 hk1 hS => ?_)
  obtain ⟨hP, hD, hK⟩ := Bw.same ht hvm hP hD hK hk1 hFc
  clear hz1 hk1 hvm ht hB
  have hq9 := hw.2
  have hw := hw.1
  obtain ⟨x_1948, rfl⟩ : ∃ z, z = r := ⟨_, rfl⟩
  have hq_x_1948 := hq9
  have hG := hG.trans (lt_eq hq_x_1948.symm)
  have bx_1948 := hw.1
  have dx_1948 := bz_ti bx_1948
  have px_1948 := hw.2
  have hFc := va_free (wc := [(oc7 oM x_1946 rM_tape iM_taped iM_size iM_at iM_end iM_token iM_whole iM_nameSize iM_fault iM_place x_1947 rM_letters iM_failed iM_hasCourt rM_r rM_fresh rM_told rM_read rM_st rM_undone rM_kept iM_undos iM_images rM_fresher iM_fresherSize iM_scale iM_night rM_heardRow rM_cutRow iM_breaths iM_cutMany iM_allBreaths rM_trial rM_words iM_fewestBreaths iM_orderMany iM_orderSum iM_leastOrder rM_often iM_setMany iM_someOf iM_allOf iM_allWeight iM_enoughWeight iM_worthSum iM_firstRest iM_leastDrawn), (arI rM_r kM_r 287 fM_r)]) hD hS hA [5, 0] rfl
  refine va_calli (va_runV (As := [.int x_1948]) (rest := []) ⟨hx, hb, hml, hown, hts⟩ (tX7_why l dC dI _ oM x_1946 rM_tape iM_taped iM_size iM_at iM_end iM_token iM_whole iM_nameSize iM_fault iM_place x_1947 rM_letters iM_failed iM_hasCourt rM_r fM_r kM_r rM_fresh rM_told rM_read rM_st rM_undone rM_kept iM_undos iM_images rM_fresher iM_fresherSize iM_scale iM_night rM_heardRow rM_cutRow iM_breaths iM_cutMany iM_allBreaths rM_trial rM_words iM_fewestBreaths iM_orderMany iM_orderSum iM_leastOrder rM_often iM_setMany iM_someOf iM_allOf iM_allWeight iM_enoughWeight iM_worthSum iM_firstRest iM_leastDrawn x_1948 (by first | omega | decide) (by first | omega | decide) (by first | omega | decide) (by first | omega | decide) (by first | omega | decide) (by first | omega | decide) (by first | omega | decide) (by first | omega | decide) (by first | omega | decide) (by first | omega | decide) (by assumption) (by assumption) (by first | omega | decide | assumption | (have q0 := kc_0; have q1 := kc_1; omega) | (intro h; exact absurd h (by decide)))) (cwV 1 hts (wd_V wd_882 wd_883 wd_884 wd_5 (wd_c wd_885)) rfl rfl rfl (by decide +kernel) ⟨Nat.le_of_ble_eq_true rfl, Nat.le_of_ble_eq_true rfl⟩) ⟨Pw.fb, va_recv hK hP (ci := 7) (q0 := 5) rfl rfl, fun U hU hW => Pw.to (hP.sub [5, 0] rfl) (hD.sub [5, 0] (by decide) rfl) (hK.sub [0] rfl) hE hS hFc hU hW⟩ rfl rfl hl.1 rfl (lv_room (Nat.le_of_ble_eq_true rfl)) dX7_proof_12 ⟨Nat.le_of_ble_eq_true rfl, Nat.le_of_ble_eq_true rfl⟩) hS (fun q _ h => hFc q h) hFc (fun r u t H locs ht hvm hw hB hz1 hk1 hS => ?_)
  have hru9 := hw.2
  have hw := hw.1
  obtain ⟨hP, hD, hK⟩ := Bw.go (ws' := [(arI rM_told kM_told 90 fM_told), (arI rM_st kM_st 90 fM_st), (arI rM_trial kM_trial 90 fM_trial), (arI rM_words kM_words 10 fM_words), (oc7 oM x_1946 rM_tape iM_taped iM_size iM_at iM_end iM_token iM_whole iM_nameSize iM_fault iM_place x_1947 rM_letters iM_failed iM_hasCourt rM_r rM_fresh rM_told rM_read rM_st rM_undone rM_kept iM_undos iM_images rM_fresher iM_fresherSize iM_scale iM_night rM_heardRow rM_cutRow iM_breaths iM_cutMany iM_allBreaths rM_trial rM_words iM_fewestBreaths iM_orderMany iM_orderSum iM_leastOrder rM_often iM_setMany iM_someOf iM_allOf iM_allWeight iM_enoughWeight iM_worthSum iM_firstRest iM_leastDrawn), (arI rM_r kM_r 287 fM_r)]) (tys' := [(kM_told, .int), (kM_st, .int), (kM_trial, .int), (kM_words, .int), (kM_r, .int)]) hB rfl ht hvm hP hD hK [5, 0] [1, 2, 3, 4] rfl (by decide) (by decide) [1, 2, 3, 4] hk1 hFc rfl rfl rfl
  clear hz1 hk1 hvm ht hB
  rcases hw.2 with ⟨rfl, hc_1949⟩ | ⟨rfl, hc_1949⟩ | ⟨rfl, hc_1949⟩
  · skip
    have hG := hG.trans (lt_eq hru9.symm)
    have hG := hG.trans (if_pos rfl)
    refine lv_istore_n (lv' := [(2, .int 0), (0, .ref oM), (1, .int p0)]) hx hb dX7_proof_15 rfl hl (by decide) rfl (fun ls hl => ?_)
    refine lv_iload_n hx hb dX7_proof_16 rfl (lv_at hl 0 rfl) ?_
    refine lv_if_eq (tgt := 28) hx hb dX7_proof_17 (by decide) (fun _ => ?_) (fun c => absurd c (by decide))
    refine lv_aload_n hx hb dX7_proof_28 rfl (lv_at hl 1 rfl) ?_
    refine lv_iconst (v := 0) hx hb dX7_proof_29 (by decide) ?_
    refine lv_iload_n hx hb dX7_proof_30 rfl (lv_at hl 2 rfl) ?_
    have hFc := va_free (wc := [(oc7 oM x_1946 rM_tape iM_taped iM_size iM_at iM_end iM_token iM_whole iM_nameSize iM_fault iM_place x_1947 rM_letters iM_failed iM_hasCourt rM_r rM_fresh rM_told rM_read rM_st rM_undone rM_kept iM_undos iM_images rM_fresher iM_fresherSize iM_scale iM_night rM_heardRow rM_cutRow iM_breaths iM_cutMany iM_allBreaths rM_trial rM_words iM_fewestBreaths iM_orderMany iM_orderSum iM_leastOrder rM_often iM_setMany iM_someOf iM_allOf iM_allWeight iM_enoughWeight iM_worthSum iM_firstRest iM_leastDrawn), (arI rM_r kM_r 287 fM_r), (arI rM_told kM_told 90 fM_told), (arI rM_st kM_st 90 fM_st), (arI rM_trial kM_trial 90 fM_trial), (arI rM_words kM_words 10 fM_words)]) hD hS hA [4, 5, 0, 1, 2, 3] rfl
    refine va_calli (va_runV (As := [.int 0, .int p0]) (rest := []) ⟨hx, hb, hml, hown, hts⟩ (tX7_fewestFor l dC dI _ oM x_1946 rM_tape iM_taped iM_size iM_at iM_end iM_token iM_whole iM_nameSize iM_fault iM_place x_1947 rM_letters iM_failed iM_hasCourt rM_r fM_r kM_r rM_fresh rM_told fM_told kM_told rM_read rM_st fM_st kM_st rM_undone rM_kept iM_undos iM_images rM_fresher iM_fresherSize iM_scale iM_night rM_heardRow rM_cutRow iM_breaths iM_cutMany iM_allBreaths rM_trial fM_trial kM_trial rM_words fM_words kM_words iM_fewestBreaths iM_orderMany iM_orderSum iM_leastOrder rM_often iM_setMany iM_someOf iM_allOf iM_allWeight iM_enoughWeight iM_worthSum iM_firstRest iM_leastDrawn 0 p0 (by first | omega | decide) (by first | omega | decide) (by first | omega | decide) (by first | omega | decide) (by first | omega | decide) (by first | omega | decide) (by first | omega | decide) (by first | omega | decide) (by first | omega | decide) (by first | omega | decide) (by assumption) (by assumption) (by assumption) (by assumption) (by assumption) (by first | omega | decide | assumption | (have q0 := kc_0; have q1 := kc_1; omega) | (intro h; exact absurd h (by decide)))) (cwV 2 hts (wd_V wd_961 wd_962 wd_963 wd_5 (wd_c wd_964)) rfl rfl rfl (by decide +kernel) ⟨Nat.le_of_ble_eq_true rfl, Nat.le_of_ble_eq_true rfl⟩) ⟨Pw.fb, va_recv hK hP (ci := 7) (q0 := 4) rfl rfl, fun U hU hW => Pw.to (hP.sub [4, 5, 0, 1, 2, 3] rfl) (hD.sub [4, 5, 0, 1, 2, 3] (by decide) rfl) (hK.sub [4, 0, 1, 2, 3] rfl) hE hS hFc hU hW⟩ rfl rfl hl.1 rfl (lv_room (Nat.le_of_ble_eq_true rfl)) dX7_proof_31 ⟨Nat.le_of_ble_eq_true rfl, Nat.le_of_ble_eq_true rfl⟩) hS (fun q _ h => hFc q h) hFc (fun r u t H locs ht hvm hw hB hz1 hk1 hS => ?_)
    have hru9 := hw.2
    have hw := hw.1
    obtain ⟨f_1952, f_1953, e_f_1952_0, hB⟩ := hB
    obtain ⟨hP, hD, hK⟩ := Bw.go (ws' := [(oc7 oM x_1946 rM_tape iM_taped iM_size iM_at iM_end iM_token iM_whole iM_nameSize iM_fault iM_place x_1947 rM_letters iM_failed iM_hasCourt rM_r rM_fresh rM_told rM_read rM_st rM_undone rM_kept iM_undos iM_images rM_fresher iM_fresherSize iM_scale iM_night rM_heardRow rM_cutRow iM_breaths iM_cutMany iM_allBreaths rM_trial rM_words iM_fewestBreaths iM_orderMany iM_orderSum iM_leastOrder rM_often iM_setMany iM_someOf iM_allOf iM_allWeight iM_enoughWeight iM_worthSum iM_firstRest iM_leastDrawn), (arI rM_r kM_r 287 fM_r), (arI rM_told kM_told 90 fM_told), (arI rM_st kM_st 90 fM_st), (arI rM_trial kM_trial 90 f_1952), (arI rM_words kM_words 10 f_1953)]) (tys' := [(kM_r, .int), (kM_told, .int), (kM_st, .int), (kM_trial, .int), (kM_words, .int)]) hB rfl ht hvm hP hD hK [4, 5, 0, 1, 2, 3] [] rfl (by decide) (by decide) [] hk1 hFc rfl rfl rfl
    clear hz1 hk1 hvm ht hB
    rw [← hru9] at e_f_1952_0
    obtain ⟨x_1954, rfl⟩ : ∃ z, z = r := ⟨_, rfl⟩
    have hG := hG.trans (un3_eq e_f_1952_0)
    exact W.iret hx hb hr (fun t ht hW => ⟨⟨_, (cI x_1954), rfl, ⟨⟨trivial, trivial⟩, (cI_of x_1954)⟩, ⟨x_1946, x_1947, f_1952, f_1953, (cI_tup hG), Bw.to (hP.sub [0, 1, 2, 3, 4, 5] rfl) (hD.sub [0, 1, 2, 3, 4, 5] (by decide) rfl) (hK.sub [0, 1, 2, 3, 4] rfl) ht hW⟩⟩, hS.F ht⟩) hS.2.2 dX7_proof_34
  · skip
    have hG := hG.trans (lt_eq hru9.symm)
    have hG := hG.trans (if_neg (by decide))
    have hG := hG.trans (if_pos rfl)
    refine lv_istore_n (lv' := [(2, .int 1), (0, .ref oM), (1, .int p0)]) hx hb dX7_proof_15 rfl hl (by decide) rfl (fun ls hl => ?_)
    refine lv_iload_n hx hb dX7_proof_16 rfl (lv_at hl 0 rfl) ?_
    refine lv_if_eq (tgt := 28) hx hb dX7_proof_17 (by decide) (fun c => absurd c (by decide)) (fun _ => ?_)
    refine lv_aload_n hx hb dX7_proof_20 rfl (lv_at hl 1 rfl) ?_
    refine lv_iload_n hx hb dX7_proof_21 rfl (lv_at hl 0 rfl) ?_
    have hFc := va_free (wc := [(oc7 oM x_1946 rM_tape iM_taped iM_size iM_at iM_end iM_token iM_whole iM_nameSize iM_fault iM_place x_1947 rM_letters iM_failed iM_hasCourt rM_r rM_fresh rM_told rM_read rM_st rM_undone rM_kept iM_undos iM_images rM_fresher iM_fresherSize iM_scale iM_night rM_heardRow rM_cutRow iM_breaths iM_cutMany iM_allBreaths rM_trial rM_words iM_fewestBreaths iM_orderMany iM_orderSum iM_leastOrder rM_often iM_setMany iM_someOf iM_allOf iM_allWeight iM_enoughWeight iM_worthSum iM_firstRest iM_leastDrawn)]) hD hS hA [4] rfl
    refine va_calli (va_runV (As := [.int 1]) (rest := []) ⟨hx, hb, hml, hown, hts⟩ (tX7_no l dC dI _ oM x_1946 rM_tape iM_taped iM_size iM_at iM_end iM_token iM_whole iM_nameSize iM_fault iM_place x_1947 rM_letters iM_failed iM_hasCourt rM_r rM_fresh rM_told rM_read rM_st rM_undone rM_kept iM_undos iM_images rM_fresher iM_fresherSize iM_scale iM_night rM_heardRow rM_cutRow iM_breaths iM_cutMany iM_allBreaths rM_trial rM_words iM_fewestBreaths iM_orderMany iM_orderSum iM_leastOrder rM_often iM_setMany iM_someOf iM_allOf iM_allWeight iM_enoughWeight iM_worthSum iM_firstRest iM_leastDrawn 1 (by first | omega | decide) (by first | omega | decide) (by first | omega | decide) (by first | omega | decide) (by first | omega | decide) (by first | omega | decide) (by first | omega | decide) (by first | omega | decide) (by first | omega | decide) (by first | omega | decide)) (cwV 1 hts (wd_V wd_396 wd_397 wd_398 wd_5 (wd_c wd_399)) rfl rfl rfl (by decide +kernel) ⟨Nat.le_of_ble_eq_true rfl, Nat.le_of_ble_eq_true rfl⟩) ⟨Pw.fb, va_recv hK hP (ci := 7) (q0 := 4) rfl rfl, fun U hU hW => Pw.to (hP.sub [4] rfl) (hD.sub [4] (by decide) rfl) (hK.sub [] rfl) hE hS hFc hU hW⟩ rfl rfl hl.1 rfl (lv_room (Nat.le_of_ble_eq_true rfl)) dX7_proof_22 ⟨Nat.le_of_ble_eq_true rfl, Nat.le_of_ble_eq_true rfl⟩) hS (fun q _ h => hFc q h) hFc (fun r u t H locs ht hvm hw hB hz1 hk1 hS => ?_)
    have hru9 := hw.2
    have hw := hw.1
    obtain ⟨x_1956, e_x_1956_0, hB⟩ := hB
    obtain ⟨hP, hD, hK⟩ := Bw.go (ws' := [(arI rM_told kM_told 90 fM_told), (arI rM_st kM_st 90 fM_st), (arI rM_trial kM_trial 90 fM_trial), (arI rM_words kM_words 10 fM_words), (arI rM_r kM_r 287 fM_r), (oc7 oM x_1946 rM_tape iM_taped iM_size iM_at iM_end iM_token iM_whole iM_nameSize iM_fault iM_place x_1956 rM_letters iM_failed iM_hasCourt rM_r rM_fresh rM_told rM_read rM_st rM_undone rM_kept iM_undos iM_images rM_fresher iM_fresherSize iM_scale iM_night rM_heardRow rM_cutRow iM_breaths iM_cutMany iM_allBreaths rM_trial rM_words iM_fewestBreaths iM_orderMany iM_orderSum iM_leastOrder rM_often iM_setMany iM_someOf iM_allOf iM_allWeight iM_enoughWeight iM_worthSum iM_firstRest iM_leastDrawn)]) (tys' := [(kM_told, .int), (kM_st, .int), (kM_trial, .int), (kM_words, .int), (kM_r, .int)]) hB rfl ht hvm hP hD hK [4] [0, 1, 2, 3, 5] rfl (by decide) (by decide) [0, 1, 2, 3, 4] hk1 hFc rfl rfl rfl
    clear hz1 hk1 hvm ht hB
    rw [← hru9] at e_x_1956_0
    obtain ⟨x_1957, rfl⟩ : ∃ z, z = r := ⟨_, rfl⟩
    have hG := hG.trans (un2_eq e_x_1956_0)
    refine lv_goto (tgt := 34) hx hb dX7_proof_25 (by decide) ?_
    exact W.iret hx hb hr (fun t ht hW => ⟨⟨_, (cI x_1957), rfl, ⟨⟨trivial, trivial⟩, (cI_of x_1957)⟩, ⟨x_1946, x_1956, fM_trial, fM_words, (cI_tup hG), Bw.to (hP.sub [5, 4, 0, 1, 2, 3] rfl) (hD.sub [5, 4, 0, 1, 2, 3] (by decide) rfl) (hK.sub [4, 0, 1, 2, 3] rfl) ht hW⟩⟩, hS.F ht⟩) hS.2.2 dX7_proof_34
  · skip
    have hG := hG.trans (lt_eq hru9.symm)
    have hG := hG.trans (if_neg (by decide))
    have hG := hG.trans (if_neg (by decide))
    refine lv_istore_n (lv' := [(2, .int 2), (0, .ref oM), (1, .int p0)]) hx hb dX7_proof_15 rfl hl (by decide) rfl (fun ls hl => ?_)
    refine lv_iload_n hx hb dX7_proof_16 rfl (lv_at hl 0 rfl) ?_
    refine lv_if_eq (tgt := 28) hx hb dX7_proof_17 (by decide) (fun c => absurd c (by decide)) (fun _ => ?_)
    refine lv_aload_n hx hb dX7_proof_20 rfl (lv_at hl 1 rfl) ?_
    refine lv_iload_n hx hb dX7_proof_21 rfl (lv_at hl 0 rfl) ?_
    have hFc := va_free (wc := [(oc7 oM x_1946 rM_tape iM_taped iM_size iM_at iM_end iM_token iM_whole iM_nameSize iM_fault iM_place x_1947 rM_letters iM_failed iM_hasCourt rM_r rM_fresh rM_told rM_read rM_st rM_undone rM_kept iM_undos iM_images rM_fresher iM_fresherSize iM_scale iM_night rM_heardRow rM_cutRow iM_breaths iM_cutMany iM_allBreaths rM_trial rM_words iM_fewestBreaths iM_orderMany iM_orderSum iM_leastOrder rM_often iM_setMany iM_someOf iM_allOf iM_allWeight iM_enoughWeight iM_worthSum iM_firstRest iM_leastDrawn)]) hD hS hA [4] rfl
    refine va_calli (va_runV (As := [.int 2]) (rest := []) ⟨hx, hb, hml, hown, hts⟩ (tX7_no l dC dI _ oM x_1946 rM_tape iM_taped iM_size iM_at iM_end iM_token iM_whole iM_nameSize iM_fault iM_place x_1947 rM_letters iM_failed iM_hasCourt rM_r rM_fresh rM_told rM_read rM_st rM_undone rM_kept iM_undos iM_images rM_fresher iM_fresherSize iM_scale iM_night rM_heardRow rM_cutRow iM_breaths iM_cutMany iM_allBreaths rM_trial rM_words iM_fewestBreaths iM_orderMany iM_orderSum iM_leastOrder rM_often iM_setMany iM_someOf iM_allOf iM_allWeight iM_enoughWeight iM_worthSum iM_firstRest iM_leastDrawn 2 (by first | omega | decide) (by first | omega | decide) (by first | omega | decide) (by first | omega | decide) (by first | omega | decide) (by first | omega | decide) (by first | omega | decide) (by first | omega | decide) (by first | omega | decide) (by first | omega | decide)) (cwV 1 hts (wd_V wd_396 wd_397 wd_398 wd_5 (wd_c wd_399)) rfl rfl rfl (by decide +kernel) ⟨Nat.le_of_ble_eq_true rfl, Nat.le_of_ble_eq_true rfl⟩) ⟨Pw.fb, va_recv hK hP (ci := 7) (q0 := 4) rfl rfl, fun U hU hW => Pw.to (hP.sub [4] rfl) (hD.sub [4] (by decide) rfl) (hK.sub [] rfl) hE hS hFc hU hW⟩ rfl rfl hl.1 rfl (lv_room (Nat.le_of_ble_eq_true rfl)) dX7_proof_22 ⟨Nat.le_of_ble_eq_true rfl, Nat.le_of_ble_eq_true rfl⟩) hS (fun q _ h => hFc q h) hFc (fun r u t H locs ht hvm hw hB hz1 hk1 hS => ?_)
    have hru9 := hw.2
    have hw := hw.1
    obtain ⟨x_1959, e_x_1959_0, hB⟩ := hB
    obtain ⟨hP, hD, hK⟩ := Bw.go (ws' := [(arI rM_told kM_told 90 fM_told), (arI rM_st kM_st 90 fM_st), (arI rM_trial kM_trial 90 fM_trial), (arI rM_words kM_words 10 fM_words), (arI rM_r kM_r 287 fM_r), (oc7 oM x_1946 rM_tape iM_taped iM_size iM_at iM_end iM_token iM_whole iM_nameSize iM_fault iM_place x_1959 rM_letters iM_failed iM_hasCourt rM_r rM_fresh rM_told rM_read rM_st rM_undone rM_kept iM_undos iM_images rM_fresher iM_fresherSize iM_scale iM_night rM_heardRow rM_cutRow iM_breaths iM_cutMany iM_allBreaths rM_trial rM_words iM_fewestBreaths iM_orderMany iM_orderSum iM_leastOrder rM_often iM_setMany iM_someOf iM_allOf iM_allWeight iM_enoughWeight iM_worthSum iM_firstRest iM_leastDrawn)]) (tys' := [(kM_told, .int), (kM_st, .int), (kM_trial, .int), (kM_words, .int), (kM_r, .int)]) hB rfl ht hvm hP hD hK [4] [0, 1, 2, 3, 5] rfl (by decide) (by decide) [0, 1, 2, 3, 4] hk1 hFc rfl rfl rfl
    clear hz1 hk1 hvm ht hB
    rw [← hru9] at e_x_1959_0
    obtain ⟨x_1960, rfl⟩ : ∃ z, z = r := ⟨_, rfl⟩
    have hG := hG.trans (un2_eq e_x_1959_0)
    refine lv_goto (tgt := 34) hx hb dX7_proof_25 (by decide) ?_
    exact W.iret hx hb hr (fun t ht hW => ⟨⟨_, (cI x_1960), rfl, ⟨⟨trivial, trivial⟩, (cI_of x_1960)⟩, ⟨x_1946, x_1959, fM_trial, fM_words, (cI_tup hG), Bw.to (hP.sub [5, 4, 0, 1, 2, 3] rfl) (hD.sub [5, 4, 0, 1, 2, 3] (by decide) rfl) (hK.sub [4, 0, 1, 2, 3] rfl) ht hW⟩⟩, hS.F ht⟩) hS.2.2 dX7_proof_34
set_option maxHeartbeats 4000000 in
set_option maxRecDepth 100000 in
theorem tX7_disproof (l : Launch) (dC : Nat → ClassId) (dI : Nat → Nat → Nat) (sz : Nat) (oM : Nat) (iM_thrown : Int32) (rM_tape : Nat) (iM_taped : Int32) (iM_size : Int32) (iM_at : Int32) (iM_end : Int32) (iM_token : Int32) (iM_whole : Int32) (iM_nameSize : Int32) (iM_fault : Int32) (iM_place : Int32) (iM_trouble : Int32) (rM_letters : Nat) (iM_failed : Int32) (iM_hasCourt : Int32) (rM_r : Nat) (fM_r : Nat → Int32) (kM_r : ClassId) (rM_fresh : Nat) (rM_told : Nat) (fM_told : Nat → Int32) (kM_told : ClassId) (rM_read : Nat) (rM_st : Nat) (fM_st : Nat → Int32) (kM_st : ClassId) (rM_undone : Nat) (rM_kept : Nat) (iM_undos : Int32) (iM_images : Int32) (rM_fresher : Nat) (iM_fresherSize : Int32) (iM_scale : Int32) (iM_night : Int32) (rM_heardRow : Nat) (rM_cutRow : Nat) (iM_breaths : Int32) (iM_cutMany : Int32) (iM_allBreaths : Int32) (rM_trial : Nat) (fM_trial : Nat → Int32) (kM_trial : ClassId) (rM_words : Nat) (fM_words : Nat → Int32) (kM_words : ClassId) (iM_fewestBreaths : Int32) (iM_orderMany : Int32) (iM_orderSum : Int32) (iM_leastOrder : Int32) (rM_often : Nat) (iM_setMany : Int32) (iM_someOf : Int32) (iM_allOf : Int32) (iM_allWeight : Int64) (iM_enoughWeight : Int64) (iM_worthSum : Int64) (iM_firstRest : Int32) (iM_leastDrawn : Int32) (p0 : Int32) (b_iM_taped : 0 ≤ iM_taped.toInt ∧ iM_taped.toInt ≤ 900) (b_iM_size : 0 ≤ iM_size.toInt ∧ iM_size.toInt ≤ 900) (b_iM_end : 0 ≤ iM_end.toInt ∧ iM_end.toInt ≤ 900) (b_iM_failed : 0 ≤ iM_failed.toInt ∧ iM_failed.toInt ≤ 1) (b_iM_hasCourt : 0 ≤ iM_hasCourt.toInt ∧ iM_hasCourt.toInt ≤ 1) (b_iM_undos : 0 ≤ iM_undos.toInt ∧ iM_undos.toInt ≤ 16) (b_iM_images : 0 ≤ iM_images.toInt ∧ iM_images.toInt ≤ 3) (b_iM_scale : 1 ≤ iM_scale.toInt ∧ iM_scale.toInt ≤ 1296) (b_iM_breaths : 0 ≤ iM_breaths.toInt ∧ iM_breaths.toInt ≤ 399) (b_iM_cutMany : 0 ≤ iM_cutMany.toInt ∧ iM_cutMany.toInt ≤ 399) (r_R : ROk fM_r) (r_C : iM_hasCourt.toInt ≤ 0 ∨ (1 ≤ (fM_r 1).toInt ∧ 0 ≤ (fM_r 6).toInt ∧ (fM_r 6).toInt < (fM_r 1).toInt)) (r_st : RowOk fM_r fM_st) (r_told : RowOk fM_r fM_told) (r_wst : WorOk fM_st)  : Met l yX7_disproof (Cond.code yX7_disproof cX7_disproof 3 (some .int) :: wG) ({ frames := 25, cells := 0, slots := 0, locals := 658 }) (va_Pc [.ref oM, .int p0] (Pw dC dI sz [(oc7 oM iM_thrown rM_tape iM_taped iM_size iM_at iM_end iM_token iM_whole iM_nameSize iM_fault iM_place iM_trouble rM_letters iM_failed iM_hasCourt rM_r rM_fresh rM_told rM_read rM_st rM_undone rM_kept iM_undos iM_images rM_fresher iM_fresherSize iM_scale iM_night rM_heardRow rM_cutRow iM_breaths iM_cutMany iM_allBreaths rM_trial rM_words iM_fewestBreaths iM_orderMany iM_orderSum iM_leastOrder rM_often iM_setMany iM_someOf iM_allOf iM_allWeight iM_enoughWeight iM_worthSum iM_firstRest iM_leastDrawn), (arI rM_r kM_r 287 fM_r), (arI rM_told kM_told 90 fM_told), (arI rM_st kM_st 90 fM_st), (arI rM_trial kM_trial 90 fM_trial), (arI rM_words kM_words 10 fM_words)] [(kM_r, .int), (kM_told, .int), (kM_st, .int), (kM_trial, .int), (kM_words, .int)])) (va_Qi (fun (r : Int32) (u : Nat) => (True ∧ True) ∧ r = Int32.ofNat u) (fun (u : Nat) (t : State) => ∃ (niM_thrown : Int32) (niM_trouble : Int32) (nfM_trial : Nat → Int32) (nfM_words : Nat → Int32), (PX7_disproof iM_hasCourt fM_r fM_told fM_st iM_scale iM_night fM_trial fM_words p0 = (Int32.ofNat u, niM_thrown, niM_trouble, nfM_trial, nfM_words)) ∧ Bw dC dI (va_A [(oc7 oM iM_thrown rM_tape iM_taped iM_size iM_at iM_end iM_token iM_whole iM_nameSize iM_fault iM_place iM_trouble rM_letters iM_failed iM_hasCourt rM_r rM_fresh rM_told rM_read rM_st rM_undone rM_kept iM_undos iM_images rM_fresher iM_fresherSize iM_scale iM_night rM_heardRow rM_cutRow iM_breaths iM_cutMany iM_allBreaths rM_trial rM_words iM_fewestBreaths iM_orderMany iM_orderSum iM_leastOrder rM_often iM_setMany iM_someOf iM_allOf iM_allWeight iM_enoughWeight iM_worthSum iM_firstRest iM_leastDrawn), (arI rM_r kM_r 287 fM_r), (arI rM_told kM_told 90 fM_told), (arI rM_st kM_st 90 fM_st), (arI rM_trial kM_trial 90 fM_trial), (arI rM_words kM_words 10 fM_words)] sz) [(oc7 oM niM_thrown rM_tape iM_taped iM_size iM_at iM_end iM_token iM_whole iM_nameSize iM_fault iM_place niM_trouble rM_letters iM_failed iM_hasCourt rM_r rM_fresh rM_told rM_read rM_st rM_undone rM_kept iM_undos iM_images rM_fresher iM_fresherSize iM_scale iM_night rM_heardRow rM_cutRow iM_breaths iM_cutMany iM_allBreaths rM_trial rM_words iM_fewestBreaths iM_orderMany iM_orderSum iM_leastOrder rM_often iM_setMany iM_someOf iM_allOf iM_allWeight iM_enoughWeight iM_worthSum iM_firstRest iM_leastDrawn), (arI rM_r kM_r 287 fM_r), (arI rM_told kM_told 90 fM_told), (arI rM_st kM_st 90 fM_st), (arI rM_trial kM_trial 90 nfM_trial), (arI rM_words kM_words 10 nfM_words)] [(kM_r, .int), (kM_told, .int), (kM_st, .int), (kM_trial, .int), (kM_words, .int)] t) (va_A [(oc7 oM iM_thrown rM_tape iM_taped iM_size iM_at iM_end iM_token iM_whole iM_nameSize iM_fault iM_place iM_trouble rM_letters iM_failed iM_hasCourt rM_r rM_fresh rM_told rM_read rM_st rM_undone rM_kept iM_undos iM_images rM_fresher iM_fresherSize iM_scale iM_night rM_heardRow rM_cutRow iM_breaths iM_cutMany iM_allBreaths rM_trial rM_words iM_fewestBreaths iM_orderMany iM_orderSum iM_leastOrder rM_often iM_setMany iM_someOf iM_allOf iM_allWeight iM_enoughWeight iM_worthSum iM_firstRest iM_leastDrawn), (arI rM_r kM_r 287 fM_r), (arI rM_told kM_told 90 fM_told), (arI rM_st kM_st 90 fM_st), (arI rM_trial kM_trial 90 fM_trial), (arI rM_words kM_words 10 fM_words)] sz)) 0 0 (va_A [(oc7 oM iM_thrown rM_tape iM_taped iM_size iM_at iM_end iM_token iM_whole iM_nameSize iM_fault iM_place iM_trouble rM_letters iM_failed iM_hasCourt rM_r rM_fresh rM_told rM_read rM_st rM_undone rM_kept iM_undos iM_images rM_fresher iM_fresherSize iM_scale iM_night rM_heardRow rM_cutRow iM_breaths iM_cutMany iM_allBreaths rM_trial rM_words iM_fewestBreaths iM_orderMany iM_orderSum iM_leastOrder rM_often iM_setMany iM_someOf iM_allOf iM_allWeight iM_enoughWeight iM_worthSum iM_firstRest iM_leastDrawn), (arI rM_r kM_r 287 fM_r), (arI rM_told kM_told 90 fM_told), (arI rM_st kM_st 90 fM_st), (arI rM_trial kM_trial 90 fM_trial), (arI rM_words kM_words 10 fM_words)] sz) := by
  refine Met.ofW (cc := cX7_disproof) (maxL := 3) (ret := (some .int)) (by decide) rfl ?_
  intro p e s m args below meth c s₁ B hml hv
  obtain ⟨rfl, hsz, hP, hK, hD0, hE⟩ := hv
  have hx := B.exec
  have hb := B.bytes
  have hr := B.returns
  have hts : ∀ w ∈ wG, w.before ([.ref oM, .int p0] : List Value).toArray s = true := fun w h => atoms_spec (ws := Cond.code yX7_disproof cX7_disproof 3 (some .int) :: wG) B.pre w (List.mem_cons_of_mem _ h)
  have hown : s.vm.findClass RX7 = some m.cls := findClass_of_methodNamed B.named
  have hlocks := B.notSynchronized
  subst hsz
  have hD := hD0.self (sz := s.heap.size)
  generalize hAe : va_A [(oc7 oM iM_thrown rM_tape iM_taped iM_size iM_at iM_end iM_token iM_whole iM_nameSize iM_fault iM_place iM_trouble rM_letters iM_failed iM_hasCourt rM_r rM_fresh rM_told rM_read rM_st rM_undone rM_kept iM_undos iM_images rM_fresher iM_fresherSize iM_scale iM_night rM_heardRow rM_cutRow iM_breaths iM_cutMany iM_allBreaths rM_trial rM_words iM_fewestBreaths iM_orderMany iM_orderSum iM_leastOrder rM_often iM_setMany iM_someOf iM_allOf iM_allWeight iM_enoughWeight iM_worthSum iM_firstRest iM_leastDrawn), (arI rM_r kM_r 287 fM_r), (arI rM_told kM_told 90 fM_told), (arI rM_st kM_st 90 fM_st), (arI rM_trial kM_trial 90 fM_trial), (arI rM_words kM_words 10 fM_words)] s.heap.size = A at hD hE ⊢
  have hA : ∀ q : Nat, s.heap.size ≤ q → A q := fun q h => by rw [← hAe]; exact Or.inr h
  have hS : va_S A s.heap s.heap [] := va_S.rf
  have hl := lv_entry ([.ref oM, .int p0]) (n := 3) (Nat.le_of_ble_eq_true rfl)
  rw [lg_entry_eq]
  generalize (lg_sl ([.ref oM, .int p0]) ++ List.replicate (3 - (lg_sl ([.ref oM, .int p0])).length) Slot.unset).toArray = ls at hl ⊢
  have hl : lv_has ls 3 [(0, .ref oM), (1, .int p0)] := hl
  have hG := PX7_disproof_eq iM_hasCourt fM_r fM_told fM_st iM_scale iM_night fM_trial fM_words p0
  have s_slips := r_R.slips
  have s_nodes := r_R.nodes
  have s_uns := r_R.uns
  refine lv_aload_n hx hb dX7_disproof_0 rfl (lv_at hl 0 rfl) ?_
  have hFc := va_free (wc := [(oc7 oM iM_thrown rM_tape iM_taped iM_size iM_at iM_end iM_token iM_whole iM_nameSize iM_fault iM_place iM_trouble rM_letters iM_failed iM_hasCourt rM_r rM_fresh rM_told rM_read rM_st rM_undone rM_kept iM_undos iM_images rM_fresher iM_fresherSize iM_scale iM_night rM_heardRow rM_cutRow iM_breaths iM_cutMany iM_allBreaths rM_trial rM_words iM_fewestBreaths iM_orderMany iM_orderSum iM_leastOrder rM_often iM_setMany iM_someOf iM_allOf iM_allWeight iM_enoughWeight iM_worthSum iM_firstRest iM_leastDrawn)]) hD hS hA [0] rfl
  refine va_callv (va_runV (As := []) (rest := []) ⟨hx, hb, hml, hown, hts⟩ (tX7_good l dC dI _ oM iM_thrown rM_tape iM_taped iM_size iM_at iM_end iM_token iM_whole iM_nameSize iM_fault iM_place iM_trouble rM_letters iM_failed iM_hasCourt rM_r rM_fresh rM_told rM_read rM_st rM_undone rM_kept iM_undos iM_images rM_fresher iM_fresherSize iM_scale iM_night rM_heardRow rM_cutRow iM_breaths iM_cutMany iM_allBreaths rM_trial rM_words iM_fewestBreaths iM_orderMany iM_orderSum iM_leastOrder rM_often iM_setMany iM_someOf iM_allOf iM_allWeight iM_enoughWeight iM_worthSum iM_firstRest iM_leastDrawn (by first | omega | decide) (by first | omega | decide) (by first | omega | decide) (by first | omega | decide) (by first | omega | decide) (by first | omega | decide) (by first | omega | decide) (by first | omega | decide) (by first | omega | decide) (by first | omega | decide)) (cwV 0 hts (wd_V wd_388 wd_389 wd_390 wd_5 (wd_c wd_391)) rfl rfl rfl (by decide +kernel) ⟨Nat.le_of_ble_eq_true rfl, Nat.le_of_ble_eq_true rfl⟩) ⟨Pw.fb, va_recv hK hP (ci := 7) (q0 := 0) rfl rfl, fun U hU hW => Pw.to (hP.sub [0] rfl) (hD.sub [0] (by decide) rfl) (hK.sub [] rfl) hE hS hFc hU hW⟩ rfl rfl hl.1 rfl (lv_room (Nat.le_of_ble_eq_true rfl)) dX7_disproof_1 ⟨Nat.le_of_ble_eq_true rfl, Nat.le_of_ble_eq_true rfl⟩) hS (fun q _ h => hFc q h) hFc (fun u t H locs ht hvm hw hB hz1 hk1 hS => ?_)
  obtain ⟨x_1975, x_1976, b_x_1975, b_x_1976, e_x_1975_0, hB⟩ := hB
  obtain ⟨hP, hD, hK⟩ := Bw.go (ws' := [(arI rM_r kM_r 287 fM_r), (arI rM_told kM_told 90 fM_told), (arI rM_st kM_st 90 fM_st), (arI rM_trial kM_trial 90 fM_trial), (arI rM_words kM_words 10 fM_words), (oc7 oM x_1975 rM_tape iM_taped iM_size iM_at iM_end iM_token iM_whole iM_nameSize iM_fault iM_place x_1976 rM_letters iM_failed iM_hasCourt rM_r rM_fresh rM_told rM_read rM_st rM_undone rM_kept iM_undos iM_images rM_fresher iM_fresherSize iM_scale iM_night rM_heardRow rM_cutRow iM_breaths iM_cutMany iM_allBreaths rM_trial rM_words iM_fewestBreaths iM_orderMany iM_orderSum iM_leastOrder rM_often iM_setMany iM_someOf iM_allOf iM_allWeight iM_enoughWeight iM_worthSum iM_firstRest iM_leastDrawn)]) (tys' := [(kM_r, .int), (kM_told, .int), (kM_st, .int), (kM_trial, .int), (kM_words, .int)]) hB rfl ht hvm hP hD hK [0] [1, 2, 3, 4, 5] rfl (by decide) (by decide) [0, 1, 2, 3, 4] hk1 hFc rfl rfl rfl
  clear hz1 hk1 hvm ht hB
  have hG := hG.trans (un2_eq e_x_1975_0)
  refine lv_aload_n hx hb dX7_disproof_4 rfl (lv_at hl 0 rfl) ?_
  refine lv_iload_n hx hb dX7_disproof_5 rfl (lv_at hl 1 rfl) ?_
  refine lv_iconst (v := 0) hx hb dX7_disproof_6 (by decide) ?_
  refine lv_bipush (v := 100) hx hb dX7_disproof_7 (by decide) ?_
  have hFc : ∀ q, va_A [] _ q → A q := fun q h => hA q (Nat.le_trans hS.1 (va_nilA h))
  refine va_calli (va_runS (As := [.int p0, .int 0, .int 100]) (rest := [.ref oM]) ⟨hx, hb, hml, hown, hts⟩ (tX7_in l dC dI _ p0 0 100 ) (va_cwS 3 hts (wd_S wd_393 wd_394 wd_5 (wd_c wd_395)) rfl rfl rfl (by decide +kernel) ⟨Nat.le_of_ble_eq_true rfl, Nat.le_of_ble_eq_true rfl⟩) ⟨Pw.fb, fun U hU hW => Pn.to hK hE hS hA hU hW⟩ rfl rfl hl.1 rfl (lv_room (Nat.le_of_ble_eq_true rfl)) dX7_disproof_9 ⟨Nat.le_of_ble_eq_true rfl, Nat.le_of_ble_eq_true rfl⟩) hS (fun q _ h => hFc q h) hFc (fun r u t H locs ht hvm hw hB hz1 hk1 hS => ?_)
  obtain ⟨hP, hD, hK⟩ := Bw.same ht hvm hP hD hK hk1 hFc
  clear hz1 hk1 hvm ht hB
  have hq9 := hw.2
  have hw := hw.1
  obtain ⟨x_1977, rfl⟩ : ∃ z, z = r := ⟨_, rfl⟩
  have hq_x_1977 := hq9
  have hG := hG.trans (lt_eq hq_x_1977.symm)
  have bx_1977 := hw.1
  have dx_1977 := bz_ti bx_1977
  have px_1977 := hw.2
  have hFc := va_free (wc := [(oc7 oM x_1975 rM_tape iM_taped iM_size iM_at iM_end iM_token iM_whole iM_nameSize iM_fault iM_place x_1976 rM_letters iM_failed iM_hasCourt rM_r rM_fresh rM_told rM_read rM_st rM_undone rM_kept iM_undos iM_images rM_fresher iM_fresherSize iM_scale iM_night rM_heardRow rM_cutRow iM_breaths iM_cutMany iM_allBreaths rM_trial rM_words iM_fewestBreaths iM_orderMany iM_orderSum iM_leastOrder rM_often iM_setMany iM_someOf iM_allOf iM_allWeight iM_enoughWeight iM_worthSum iM_firstRest iM_leastDrawn), (arI rM_r kM_r 287 fM_r)]) hD hS hA [5, 0] rfl
  refine va_calli (va_runV (As := [.int x_1977]) (rest := []) ⟨hx, hb, hml, hown, hts⟩ (tX7_why l dC dI _ oM x_1975 rM_tape iM_taped iM_size iM_at iM_end iM_token iM_whole iM_nameSize iM_fault iM_place x_1976 rM_letters iM_failed iM_hasCourt rM_r fM_r kM_r rM_fresh rM_told rM_read rM_st rM_undone rM_kept iM_undos iM_images rM_fresher iM_fresherSize iM_scale iM_night rM_heardRow rM_cutRow iM_breaths iM_cutMany iM_allBreaths rM_trial rM_words iM_fewestBreaths iM_orderMany iM_orderSum iM_leastOrder rM_often iM_setMany iM_someOf iM_allOf iM_allWeight iM_enoughWeight iM_worthSum iM_firstRest iM_leastDrawn x_1977 (by first | omega | decide) (by first | omega | decide) (by first | omega | decide) (by first | omega | decide) (by first | omega | decide) (by first | omega | decide) (by first | omega | decide) (by first | omega | decide) (by first | omega | decide) (by first | omega | decide) (by assumption) (by assumption) (by first | omega | decide | assumption | (have q0 := kc_0; have q1 := kc_1; omega) | (intro h; exact absurd h (by decide)))) (cwV 1 hts (wd_V wd_882 wd_883 wd_884 wd_5 (wd_c wd_885)) rfl rfl rfl (by decide +kernel) ⟨Nat.le_of_ble_eq_true rfl, Nat.le_of_ble_eq_true rfl⟩) ⟨Pw.fb, va_recv hK hP (ci := 7) (q0 := 5) rfl rfl, fun U hU hW => Pw.to (hP.sub [5, 0] rfl) (hD.sub [5, 0] (by decide) rfl) (hK.sub [0] rfl) hE hS hFc hU hW⟩ rfl rfl hl.1 rfl (lv_room (Nat.le_of_ble_eq_true rfl)) dX7_disproof_12 ⟨Nat.le_of_ble_eq_true rfl, Nat.le_of_ble_eq_true rfl⟩) hS (fun q _ h => hFc q h) hFc (fun r u t H locs ht hvm hw hB hz1 hk1 hS => ?_)
  have hru9 := hw.2
  have hw := hw.1
  obtain ⟨hP, hD, hK⟩ := Bw.go (ws' := [(arI rM_told kM_told 90 fM_told), (arI rM_st kM_st 90 fM_st), (arI rM_trial kM_trial 90 fM_trial), (arI rM_words kM_words 10 fM_words), (oc7 oM x_1975 rM_tape iM_taped iM_size iM_at iM_end iM_token iM_whole iM_nameSize iM_fault iM_place x_1976 rM_letters iM_failed iM_hasCourt rM_r rM_fresh rM_told rM_read rM_st rM_undone rM_kept iM_undos iM_images rM_fresher iM_fresherSize iM_scale iM_night rM_heardRow rM_cutRow iM_breaths iM_cutMany iM_allBreaths rM_trial rM_words iM_fewestBreaths iM_orderMany iM_orderSum iM_leastOrder rM_often iM_setMany iM_someOf iM_allOf iM_allWeight iM_enoughWeight iM_worthSum iM_firstRest iM_leastDrawn), (arI rM_r kM_r 287 fM_r)]) (tys' := [(kM_told, .int), (kM_st, .int), (kM_trial, .int), (kM_words, .int), (kM_r, .int)]) hB rfl ht hvm hP hD hK [5, 0] [1, 2, 3, 4] rfl (by decide) (by decide) [1, 2, 3, 4] hk1 hFc rfl rfl rfl
  clear hz1 hk1 hvm ht hB
  rcases hw.2 with ⟨rfl, hc_1978⟩ | ⟨rfl, hc_1978⟩ | ⟨rfl, hc_1978⟩
  · skip
    have hG := hG.trans (lt_eq hru9.symm)
    have hG := hG.trans (if_pos rfl)
    refine lv_istore_n (lv' := [(2, .int 0), (0, .ref oM), (1, .int p0)]) hx hb dX7_disproof_15 rfl hl (by decide) rfl (fun ls hl => ?_)
    refine lv_iload_n hx hb dX7_disproof_16 rfl (lv_at hl 0 rfl) ?_
    refine lv_if_eq (tgt := 28) hx hb dX7_disproof_17 (by decide) (fun _ => ?_) (fun c => absurd c (by decide))
    refine lv_aload_n hx hb dX7_disproof_28 rfl (lv_at hl 1 rfl) ?_
    refine lv_iconst (v := 1) hx hb dX7_disproof_29 (by decide) ?_
    refine lv_iload_n hx hb dX7_disproof_30 rfl (lv_at hl 2 rfl) ?_
    have hFc := va_free (wc := [(oc7 oM x_1975 rM_tape iM_taped iM_size iM_at iM_end iM_token iM_whole iM_nameSize iM_fault iM_place x_1976 rM_letters iM_failed iM_hasCourt rM_r rM_fresh rM_told rM_read rM_st rM_undone rM_kept iM_undos iM_images rM_fresher iM_fresherSize iM_scale iM_night rM_heardRow rM_cutRow iM_breaths iM_cutMany iM_allBreaths rM_trial rM_words iM_fewestBreaths iM_orderMany iM_orderSum iM_leastOrder rM_often iM_setMany iM_someOf iM_allOf iM_allWeight iM_enoughWeight iM_worthSum iM_firstRest iM_leastDrawn), (arI rM_r kM_r 287 fM_r), (arI rM_told kM_told 90 fM_told), (arI rM_st kM_st 90 fM_st), (arI rM_trial kM_trial 90 fM_trial), (arI rM_words kM_words 10 fM_words)]) hD hS hA [4, 5, 0, 1, 2, 3] rfl
    refine va_calli (va_runV (As := [.int 1, .int p0]) (rest := []) ⟨hx, hb, hml, hown, hts⟩ (tX7_fewestFor l dC dI _ oM x_1975 rM_tape iM_taped iM_size iM_at iM_end iM_token iM_whole iM_nameSize iM_fault iM_place x_1976 rM_letters iM_failed iM_hasCourt rM_r fM_r kM_r rM_fresh rM_told fM_told kM_told rM_read rM_st fM_st kM_st rM_undone rM_kept iM_undos iM_images rM_fresher iM_fresherSize iM_scale iM_night rM_heardRow rM_cutRow iM_breaths iM_cutMany iM_allBreaths rM_trial fM_trial kM_trial rM_words fM_words kM_words iM_fewestBreaths iM_orderMany iM_orderSum iM_leastOrder rM_often iM_setMany iM_someOf iM_allOf iM_allWeight iM_enoughWeight iM_worthSum iM_firstRest iM_leastDrawn 1 p0 (by first | omega | decide) (by first | omega | decide) (by first | omega | decide) (by first | omega | decide) (by first | omega | decide) (by first | omega | decide) (by first | omega | decide) (by first | omega | decide) (by first | omega | decide) (by first | omega | decide) (by assumption) (by assumption) (by assumption) (by assumption) (by assumption) (by first | omega | decide | assumption | (have q0 := kc_0; have q1 := kc_1; omega) | (intro h; exact absurd h (by decide)))) (cwV 2 hts (wd_V wd_961 wd_962 wd_963 wd_5 (wd_c wd_964)) rfl rfl rfl (by decide +kernel) ⟨Nat.le_of_ble_eq_true rfl, Nat.le_of_ble_eq_true rfl⟩) ⟨Pw.fb, va_recv hK hP (ci := 7) (q0 := 4) rfl rfl, fun U hU hW => Pw.to (hP.sub [4, 5, 0, 1, 2, 3] rfl) (hD.sub [4, 5, 0, 1, 2, 3] (by decide) rfl) (hK.sub [4, 0, 1, 2, 3] rfl) hE hS hFc hU hW⟩ rfl rfl hl.1 rfl (lv_room (Nat.le_of_ble_eq_true rfl)) dX7_disproof_31 ⟨Nat.le_of_ble_eq_true rfl, Nat.le_of_ble_eq_true rfl⟩) hS (fun q _ h => hFc q h) hFc (fun r u t H locs ht hvm hw hB hz1 hk1 hS => ?_)
    have hru9 := hw.2
    have hw := hw.1
    obtain ⟨f_1981, f_1982, e_f_1981_0, hB⟩ := hB
    obtain ⟨hP, hD, hK⟩ := Bw.go (ws' := [(oc7 oM x_1975 rM_tape iM_taped iM_size iM_at iM_end iM_token iM_whole iM_nameSize iM_fault iM_place x_1976 rM_letters iM_failed iM_hasCourt rM_r rM_fresh rM_told rM_read rM_st rM_undone rM_kept iM_undos iM_images rM_fresher iM_fresherSize iM_scale iM_night rM_heardRow rM_cutRow iM_breaths iM_cutMany iM_allBreaths rM_trial rM_words iM_fewestBreaths iM_orderMany iM_orderSum iM_leastOrder rM_often iM_setMany iM_someOf iM_allOf iM_allWeight iM_enoughWeight iM_worthSum iM_firstRest iM_leastDrawn), (arI rM_r kM_r 287 fM_r), (arI rM_told kM_told 90 fM_told), (arI rM_st kM_st 90 fM_st), (arI rM_trial kM_trial 90 f_1981), (arI rM_words kM_words 10 f_1982)]) (tys' := [(kM_r, .int), (kM_told, .int), (kM_st, .int), (kM_trial, .int), (kM_words, .int)]) hB rfl ht hvm hP hD hK [4, 5, 0, 1, 2, 3] [] rfl (by decide) (by decide) [] hk1 hFc rfl rfl rfl
    clear hz1 hk1 hvm ht hB
    rw [← hru9] at e_f_1981_0
    obtain ⟨x_1983, rfl⟩ : ∃ z, z = r := ⟨_, rfl⟩
    have hG := hG.trans (un3_eq e_f_1981_0)
    exact W.iret hx hb hr (fun t ht hW => ⟨⟨_, (cI x_1983), rfl, ⟨⟨trivial, trivial⟩, (cI_of x_1983)⟩, ⟨x_1975, x_1976, f_1981, f_1982, (cI_tup hG), Bw.to (hP.sub [0, 1, 2, 3, 4, 5] rfl) (hD.sub [0, 1, 2, 3, 4, 5] (by decide) rfl) (hK.sub [0, 1, 2, 3, 4] rfl) ht hW⟩⟩, hS.F ht⟩) hS.2.2 dX7_disproof_34
  · skip
    have hG := hG.trans (lt_eq hru9.symm)
    have hG := hG.trans (if_neg (by decide))
    have hG := hG.trans (if_pos rfl)
    refine lv_istore_n (lv' := [(2, .int 1), (0, .ref oM), (1, .int p0)]) hx hb dX7_disproof_15 rfl hl (by decide) rfl (fun ls hl => ?_)
    refine lv_iload_n hx hb dX7_disproof_16 rfl (lv_at hl 0 rfl) ?_
    refine lv_if_eq (tgt := 28) hx hb dX7_disproof_17 (by decide) (fun c => absurd c (by decide)) (fun _ => ?_)
    refine lv_aload_n hx hb dX7_disproof_20 rfl (lv_at hl 1 rfl) ?_
    refine lv_iload_n hx hb dX7_disproof_21 rfl (lv_at hl 0 rfl) ?_
    have hFc := va_free (wc := [(oc7 oM x_1975 rM_tape iM_taped iM_size iM_at iM_end iM_token iM_whole iM_nameSize iM_fault iM_place x_1976 rM_letters iM_failed iM_hasCourt rM_r rM_fresh rM_told rM_read rM_st rM_undone rM_kept iM_undos iM_images rM_fresher iM_fresherSize iM_scale iM_night rM_heardRow rM_cutRow iM_breaths iM_cutMany iM_allBreaths rM_trial rM_words iM_fewestBreaths iM_orderMany iM_orderSum iM_leastOrder rM_often iM_setMany iM_someOf iM_allOf iM_allWeight iM_enoughWeight iM_worthSum iM_firstRest iM_leastDrawn)]) hD hS hA [4] rfl
    refine va_calli (va_runV (As := [.int 1]) (rest := []) ⟨hx, hb, hml, hown, hts⟩ (tX7_no l dC dI _ oM x_1975 rM_tape iM_taped iM_size iM_at iM_end iM_token iM_whole iM_nameSize iM_fault iM_place x_1976 rM_letters iM_failed iM_hasCourt rM_r rM_fresh rM_told rM_read rM_st rM_undone rM_kept iM_undos iM_images rM_fresher iM_fresherSize iM_scale iM_night rM_heardRow rM_cutRow iM_breaths iM_cutMany iM_allBreaths rM_trial rM_words iM_fewestBreaths iM_orderMany iM_orderSum iM_leastOrder rM_often iM_setMany iM_someOf iM_allOf iM_allWeight iM_enoughWeight iM_worthSum iM_firstRest iM_leastDrawn 1 (by first | omega | decide) (by first | omega | decide) (by first | omega | decide) (by first | omega | decide) (by first | omega | decide) (by first | omega | decide) (by first | omega | decide) (by first | omega | decide) (by first | omega | decide) (by first | omega | decide)) (cwV 1 hts (wd_V wd_396 wd_397 wd_398 wd_5 (wd_c wd_399)) rfl rfl rfl (by decide +kernel) ⟨Nat.le_of_ble_eq_true rfl, Nat.le_of_ble_eq_true rfl⟩) ⟨Pw.fb, va_recv hK hP (ci := 7) (q0 := 4) rfl rfl, fun U hU hW => Pw.to (hP.sub [4] rfl) (hD.sub [4] (by decide) rfl) (hK.sub [] rfl) hE hS hFc hU hW⟩ rfl rfl hl.1 rfl (lv_room (Nat.le_of_ble_eq_true rfl)) dX7_disproof_22 ⟨Nat.le_of_ble_eq_true rfl, Nat.le_of_ble_eq_true rfl⟩) hS (fun q _ h => hFc q h) hFc (fun r u t H locs ht hvm hw hB hz1 hk1 hS => ?_)
    have hru9 := hw.2
    have hw := hw.1
    obtain ⟨x_1985, e_x_1985_0, hB⟩ := hB
    obtain ⟨hP, hD, hK⟩ := Bw.go (ws' := [(arI rM_told kM_told 90 fM_told), (arI rM_st kM_st 90 fM_st), (arI rM_trial kM_trial 90 fM_trial), (arI rM_words kM_words 10 fM_words), (arI rM_r kM_r 287 fM_r), (oc7 oM x_1975 rM_tape iM_taped iM_size iM_at iM_end iM_token iM_whole iM_nameSize iM_fault iM_place x_1985 rM_letters iM_failed iM_hasCourt rM_r rM_fresh rM_told rM_read rM_st rM_undone rM_kept iM_undos iM_images rM_fresher iM_fresherSize iM_scale iM_night rM_heardRow rM_cutRow iM_breaths iM_cutMany iM_allBreaths rM_trial rM_words iM_fewestBreaths iM_orderMany iM_orderSum iM_leastOrder rM_often iM_setMany iM_someOf iM_allOf iM_allWeight iM_enoughWeight iM_worthSum iM_firstRest iM_leastDrawn)]) (tys' := [(kM_told, .int), (kM_st, .int), (kM_trial, .int), (kM_words, .int), (kM_r, .int)]) hB rfl ht hvm hP hD hK [4] [0, 1, 2, 3, 5] rfl (by decide) (by decide) [0, 1, 2, 3, 4] hk1 hFc rfl rfl rfl
    clear hz1 hk1 hvm ht hB
    rw [← hru9] at e_x_1985_0
    obtain ⟨x_1986, rfl⟩ : ∃ z, z = r := ⟨_, rfl⟩
    have hG := hG.trans (un2_eq e_x_1985_0)
    refine lv_goto (tgt := 34) hx hb dX7_disproof_25 (by decide) ?_
    exact W.iret hx hb hr (fun t ht hW => ⟨⟨_, (cI x_1986), rfl, ⟨⟨trivial, trivial⟩, (cI_of x_1986)⟩, ⟨x_1975, x_1985, fM_trial, fM_words, (cI_tup hG), Bw.to (hP.sub [5, 4, 0, 1, 2, 3] rfl) (hD.sub [5, 4, 0, 1, 2, 3] (by decide) rfl) (hK.sub [4, 0, 1, 2, 3] rfl) ht hW⟩⟩, hS.F ht⟩) hS.2.2 dX7_disproof_34
  · skip
    have hG := hG.trans (lt_eq hru9.symm)
    have hG := hG.trans (if_neg (by decide))
    have hG := hG.trans (if_neg (by decide))
    refine lv_istore_n (lv' := [(2, .int 2), (0, .ref oM), (1, .int p0)]) hx hb dX7_disproof_15 rfl hl (by decide) rfl (fun ls hl => ?_)
    refine lv_iload_n hx hb dX7_disproof_16 rfl (lv_at hl 0 rfl) ?_
    refine lv_if_eq (tgt := 28) hx hb dX7_disproof_17 (by decide) (fun c => absurd c (by decide)) (fun _ => ?_)
    refine lv_aload_n hx hb dX7_disproof_20 rfl (lv_at hl 1 rfl) ?_
    refine lv_iload_n hx hb dX7_disproof_21 rfl (lv_at hl 0 rfl) ?_
    have hFc := va_free (wc := [(oc7 oM x_1975 rM_tape iM_taped iM_size iM_at iM_end iM_token iM_whole iM_nameSize iM_fault iM_place x_1976 rM_letters iM_failed iM_hasCourt rM_r rM_fresh rM_told rM_read rM_st rM_undone rM_kept iM_undos iM_images rM_fresher iM_fresherSize iM_scale iM_night rM_heardRow rM_cutRow iM_breaths iM_cutMany iM_allBreaths rM_trial rM_words iM_fewestBreaths iM_orderMany iM_orderSum iM_leastOrder rM_often iM_setMany iM_someOf iM_allOf iM_allWeight iM_enoughWeight iM_worthSum iM_firstRest iM_leastDrawn)]) hD hS hA [4] rfl
    refine va_calli (va_runV (As := [.int 2]) (rest := []) ⟨hx, hb, hml, hown, hts⟩ (tX7_no l dC dI _ oM x_1975 rM_tape iM_taped iM_size iM_at iM_end iM_token iM_whole iM_nameSize iM_fault iM_place x_1976 rM_letters iM_failed iM_hasCourt rM_r rM_fresh rM_told rM_read rM_st rM_undone rM_kept iM_undos iM_images rM_fresher iM_fresherSize iM_scale iM_night rM_heardRow rM_cutRow iM_breaths iM_cutMany iM_allBreaths rM_trial rM_words iM_fewestBreaths iM_orderMany iM_orderSum iM_leastOrder rM_often iM_setMany iM_someOf iM_allOf iM_allWeight iM_enoughWeight iM_worthSum iM_firstRest iM_leastDrawn 2 (by first | omega | decide) (by first | omega | decide) (by first | omega | decide) (by first | omega | decide) (by first | omega | decide) (by first | omega | decide) (by first | omega | decide) (by first | omega | decide) (by first | omega | decide) (by first | omega | decide)) (cwV 1 hts (wd_V wd_396 wd_397 wd_398 wd_5 (wd_c wd_399)) rfl rfl rfl (by decide +kernel) ⟨Nat.le_of_ble_eq_true rfl, Nat.le_of_ble_eq_true rfl⟩) ⟨Pw.fb, va_recv hK hP (ci := 7) (q0 := 4) rfl rfl, fun U hU hW => Pw.to (hP.sub [4] rfl) (hD.sub [4] (by decide) rfl) (hK.sub [] rfl) hE hS hFc hU hW⟩ rfl rfl hl.1 rfl (lv_room (Nat.le_of_ble_eq_true rfl)) dX7_disproof_22 ⟨Nat.le_of_ble_eq_true rfl, Nat.le_of_ble_eq_true rfl⟩) hS (fun q _ h => hFc q h) hFc (fun r u t H locs ht hvm hw hB hz1 hk1 hS => ?_)
    have hru9 := hw.2
    have hw := hw.1
    obtain ⟨x_1988, e_x_1988_0, hB⟩ := hB
    obtain ⟨hP, hD, hK⟩ := Bw.go (ws' := [(arI rM_told kM_told 90 fM_told), (arI rM_st kM_st 90 fM_st), (arI rM_trial kM_trial 90 fM_trial), (arI rM_words kM_words 10 fM_words), (arI rM_r kM_r 287 fM_r), (oc7 oM x_1975 rM_tape iM_taped iM_size iM_at iM_end iM_token iM_whole iM_nameSize iM_fault iM_place x_1988 rM_letters iM_failed iM_hasCourt rM_r rM_fresh rM_told rM_read rM_st rM_undone rM_kept iM_undos iM_images rM_fresher iM_fresherSize iM_scale iM_night rM_heardRow rM_cutRow iM_breaths iM_cutMany iM_allBreaths rM_trial rM_words iM_fewestBreaths iM_orderMany iM_orderSum iM_leastOrder rM_often iM_setMany iM_someOf iM_allOf iM_allWeight iM_enoughWeight iM_worthSum iM_firstRest iM_leastDrawn)]) (tys' := [(kM_told, .int), (kM_st, .int), (kM_trial, .int), (kM_words, .int), (kM_r, .int)]) hB rfl ht hvm hP hD hK [4] [0, 1, 2, 3, 5] rfl (by decide) (by decide) [0, 1, 2, 3, 4] hk1 hFc rfl rfl rfl
    clear hz1 hk1 hvm ht hB
    rw [← hru9] at e_x_1988_0
    obtain ⟨x_1989, rfl⟩ : ∃ z, z = r := ⟨_, rfl⟩
    have hG := hG.trans (un2_eq e_x_1988_0)
    refine lv_goto (tgt := 34) hx hb dX7_disproof_25 (by decide) ?_
    exact W.iret hx hb hr (fun t ht hW => ⟨⟨_, (cI x_1989), rfl, ⟨⟨trivial, trivial⟩, (cI_of x_1989)⟩, ⟨x_1975, x_1988, fM_trial, fM_words, (cI_tup hG), Bw.to (hP.sub [5, 4, 0, 1, 2, 3] rfl) (hD.sub [5, 4, 0, 1, 2, 3] (by decide) rfl) (hK.sub [4, 0, 1, 2, 3] rfl) ht hW⟩⟩, hS.F ht⟩) hS.2.2 dX7_disproof_34
set_option maxHeartbeats 4000000 in
set_option maxRecDepth 100000 in
theorem tX7_sure (l : Launch) (dC : Nat → ClassId) (dI : Nat → Nat → Nat) (sz : Nat) (oM : Nat) (iM_thrown : Int32) (rM_tape : Nat) (iM_taped : Int32) (iM_size : Int32) (iM_at : Int32) (iM_end : Int32) (iM_token : Int32) (iM_whole : Int32) (iM_nameSize : Int32) (iM_fault : Int32) (iM_place : Int32) (iM_trouble : Int32) (rM_letters : Nat) (iM_failed : Int32) (iM_hasCourt : Int32) (rM_r : Nat) (fM_r : Nat → Int32) (kM_r : ClassId) (rM_fresh : Nat) (rM_told : Nat) (fM_told : Nat → Int32) (kM_told : ClassId) (rM_read : Nat) (rM_st : Nat) (fM_st : Nat → Int32) (kM_st : ClassId) (rM_undone : Nat) (rM_kept : Nat) (iM_undos : Int32) (iM_images : Int32) (rM_fresher : Nat) (iM_fresherSize : Int32) (iM_scale : Int32) (iM_night : Int32) (rM_heardRow : Nat) (rM_cutRow : Nat) (iM_breaths : Int32) (iM_cutMany : Int32) (iM_allBreaths : Int32) (rM_trial : Nat) (fM_trial : Nat → Int32) (kM_trial : ClassId) (rM_words : Nat) (fM_words : Nat → Int32) (kM_words : ClassId) (iM_fewestBreaths : Int32) (iM_orderMany : Int32) (iM_orderSum : Int32) (iM_leastOrder : Int32) (rM_often : Nat) (iM_setMany : Int32) (iM_someOf : Int32) (iM_allOf : Int32) (iM_allWeight : Int64) (iM_enoughWeight : Int64) (iM_worthSum : Int64) (iM_firstRest : Int32) (iM_leastDrawn : Int32) (b_iM_taped : 0 ≤ iM_taped.toInt ∧ iM_taped.toInt ≤ 900) (b_iM_size : 0 ≤ iM_size.toInt ∧ iM_size.toInt ≤ 900) (b_iM_end : 0 ≤ iM_end.toInt ∧ iM_end.toInt ≤ 900) (b_iM_failed : 0 ≤ iM_failed.toInt ∧ iM_failed.toInt ≤ 1) (b_iM_hasCourt : 0 ≤ iM_hasCourt.toInt ∧ iM_hasCourt.toInt ≤ 1) (b_iM_undos : 0 ≤ iM_undos.toInt ∧ iM_undos.toInt ≤ 16) (b_iM_images : 0 ≤ iM_images.toInt ∧ iM_images.toInt ≤ 3) (b_iM_scale : 1 ≤ iM_scale.toInt ∧ iM_scale.toInt ≤ 1296) (b_iM_breaths : 0 ≤ iM_breaths.toInt ∧ iM_breaths.toInt ≤ 399) (b_iM_cutMany : 0 ≤ iM_cutMany.toInt ∧ iM_cutMany.toInt ≤ 399) (r_R : ROk fM_r) (r_C : iM_hasCourt.toInt ≤ 0 ∨ (1 ≤ (fM_r 1).toInt ∧ 0 ≤ (fM_r 6).toInt ∧ (fM_r 6).toInt < (fM_r 1).toInt)) (r_st : RowOk fM_r fM_st) (r_told : RowOk fM_r fM_told) (r_wst : WorOk fM_st)  : Met l yX7_sure (Cond.code yX7_sure cX7_sure 1 (some .int) :: wG) ({ frames := 25, cells := 0, slots := 0, locals := 658 }) (va_Pc [.ref oM] (Pw dC dI sz [(oc7 oM iM_thrown rM_tape iM_taped iM_size iM_at iM_end iM_token iM_whole iM_nameSize iM_fault iM_place iM_trouble rM_letters iM_failed iM_hasCourt rM_r rM_fresh rM_told rM_read rM_st rM_undone rM_kept iM_undos iM_images rM_fresher iM_fresherSize iM_scale iM_night rM_heardRow rM_cutRow iM_breaths iM_cutMany iM_allBreaths rM_trial rM_words iM_fewestBreaths iM_orderMany iM_orderSum iM_leastOrder rM_often iM_setMany iM_someOf iM_allOf iM_allWeight iM_enoughWeight iM_worthSum iM_firstRest iM_leastDrawn), (arI rM_r kM_r 287 fM_r), (arI rM_told kM_told 90 fM_told), (arI rM_st kM_st 90 fM_st), (arI rM_trial kM_trial 90 fM_trial), (arI rM_words kM_words 10 fM_words)] [(kM_r, .int), (kM_told, .int), (kM_st, .int), (kM_trial, .int), (kM_words, .int)])) (va_Qi (fun (r : Int32) (u : Nat) => (True ∧ True) ∧ r = Int32.ofNat u) (fun (u : Nat) (t : State) => ∃ (niM_thrown : Int32) (niM_trouble : Int32) (nfM_trial : Nat → Int32) (nfM_words : Nat → Int32), (PX7_sure iM_hasCourt fM_r fM_told fM_st iM_scale iM_night fM_trial fM_words = (Int32.ofNat u, niM_thrown, niM_trouble, nfM_trial, nfM_words)) ∧ Bw dC dI (va_A [(oc7 oM iM_thrown rM_tape iM_taped iM_size iM_at iM_end iM_token iM_whole iM_nameSize iM_fault iM_place iM_trouble rM_letters iM_failed iM_hasCourt rM_r rM_fresh rM_told rM_read rM_st rM_undone rM_kept iM_undos iM_images rM_fresher iM_fresherSize iM_scale iM_night rM_heardRow rM_cutRow iM_breaths iM_cutMany iM_allBreaths rM_trial rM_words iM_fewestBreaths iM_orderMany iM_orderSum iM_leastOrder rM_often iM_setMany iM_someOf iM_allOf iM_allWeight iM_enoughWeight iM_worthSum iM_firstRest iM_leastDrawn), (arI rM_r kM_r 287 fM_r), (arI rM_told kM_told 90 fM_told), (arI rM_st kM_st 90 fM_st), (arI rM_trial kM_trial 90 fM_trial), (arI rM_words kM_words 10 fM_words)] sz) [(oc7 oM niM_thrown rM_tape iM_taped iM_size iM_at iM_end iM_token iM_whole iM_nameSize iM_fault iM_place niM_trouble rM_letters iM_failed iM_hasCourt rM_r rM_fresh rM_told rM_read rM_st rM_undone rM_kept iM_undos iM_images rM_fresher iM_fresherSize iM_scale iM_night rM_heardRow rM_cutRow iM_breaths iM_cutMany iM_allBreaths rM_trial rM_words iM_fewestBreaths iM_orderMany iM_orderSum iM_leastOrder rM_often iM_setMany iM_someOf iM_allOf iM_allWeight iM_enoughWeight iM_worthSum iM_firstRest iM_leastDrawn), (arI rM_r kM_r 287 fM_r), (arI rM_told kM_told 90 fM_told), (arI rM_st kM_st 90 fM_st), (arI rM_trial kM_trial 90 nfM_trial), (arI rM_words kM_words 10 nfM_words)] [(kM_r, .int), (kM_told, .int), (kM_st, .int), (kM_trial, .int), (kM_words, .int)] t) (va_A [(oc7 oM iM_thrown rM_tape iM_taped iM_size iM_at iM_end iM_token iM_whole iM_nameSize iM_fault iM_place iM_trouble rM_letters iM_failed iM_hasCourt rM_r rM_fresh rM_told rM_read rM_st rM_undone rM_kept iM_undos iM_images rM_fresher iM_fresherSize iM_scale iM_night rM_heardRow rM_cutRow iM_breaths iM_cutMany iM_allBreaths rM_trial rM_words iM_fewestBreaths iM_orderMany iM_orderSum iM_leastOrder rM_often iM_setMany iM_someOf iM_allOf iM_allWeight iM_enoughWeight iM_worthSum iM_firstRest iM_leastDrawn), (arI rM_r kM_r 287 fM_r), (arI rM_told kM_told 90 fM_told), (arI rM_st kM_st 90 fM_st), (arI rM_trial kM_trial 90 fM_trial), (arI rM_words kM_words 10 fM_words)] sz)) 0 0 (va_A [(oc7 oM iM_thrown rM_tape iM_taped iM_size iM_at iM_end iM_token iM_whole iM_nameSize iM_fault iM_place iM_trouble rM_letters iM_failed iM_hasCourt rM_r rM_fresh rM_told rM_read rM_st rM_undone rM_kept iM_undos iM_images rM_fresher iM_fresherSize iM_scale iM_night rM_heardRow rM_cutRow iM_breaths iM_cutMany iM_allBreaths rM_trial rM_words iM_fewestBreaths iM_orderMany iM_orderSum iM_leastOrder rM_often iM_setMany iM_someOf iM_allOf iM_allWeight iM_enoughWeight iM_worthSum iM_firstRest iM_leastDrawn), (arI rM_r kM_r 287 fM_r), (arI rM_told kM_told 90 fM_told), (arI rM_st kM_st 90 fM_st), (arI rM_trial kM_trial 90 fM_trial), (arI rM_words kM_words 10 fM_words)] sz) := by
  refine Met.ofW (cc := cX7_sure) (maxL := 1) (ret := (some .int)) (by decide) rfl ?_
  intro p e s m args below meth c s₁ B hml hv
  obtain ⟨rfl, hsz, hP, hK, hD0, hE⟩ := hv
  have hx := B.exec
  have hb := B.bytes
  have hr := B.returns
  have hts : ∀ w ∈ wG, w.before ([.ref oM] : List Value).toArray s = true := fun w h => atoms_spec (ws := Cond.code yX7_sure cX7_sure 1 (some .int) :: wG) B.pre w (List.mem_cons_of_mem _ h)
  have hown : s.vm.findClass RX7 = some m.cls := findClass_of_methodNamed B.named
  have hlocks := B.notSynchronized
  subst hsz
  have hD := hD0.self (sz := s.heap.size)
  generalize hAe : va_A [(oc7 oM iM_thrown rM_tape iM_taped iM_size iM_at iM_end iM_token iM_whole iM_nameSize iM_fault iM_place iM_trouble rM_letters iM_failed iM_hasCourt rM_r rM_fresh rM_told rM_read rM_st rM_undone rM_kept iM_undos iM_images rM_fresher iM_fresherSize iM_scale iM_night rM_heardRow rM_cutRow iM_breaths iM_cutMany iM_allBreaths rM_trial rM_words iM_fewestBreaths iM_orderMany iM_orderSum iM_leastOrder rM_often iM_setMany iM_someOf iM_allOf iM_allWeight iM_enoughWeight iM_worthSum iM_firstRest iM_leastDrawn), (arI rM_r kM_r 287 fM_r), (arI rM_told kM_told 90 fM_told), (arI rM_st kM_st 90 fM_st), (arI rM_trial kM_trial 90 fM_trial), (arI rM_words kM_words 10 fM_words)] s.heap.size = A at hD hE ⊢
  have hA : ∀ q : Nat, s.heap.size ≤ q → A q := fun q h => by rw [← hAe]; exact Or.inr h
  have hS : va_S A s.heap s.heap [] := va_S.rf
  have hl := lv_entry ([.ref oM]) (n := 1) (Nat.le_of_ble_eq_true rfl)
  rw [lg_entry_eq]
  generalize (lg_sl ([.ref oM]) ++ List.replicate (1 - (lg_sl ([.ref oM])).length) Slot.unset).toArray = ls at hl ⊢
  have hl : lv_has ls 1 [(0, .ref oM)] := hl
  have hG := PX7_sure_eq iM_hasCourt fM_r fM_told fM_st iM_scale iM_night fM_trial fM_words
  have s_slips := r_R.slips
  have s_nodes := r_R.nodes
  have s_uns := r_R.uns
  refine lv_aload_n hx hb dX7_sure_0 rfl (lv_at hl 0 rfl) ?_
  have hFc := va_free (wc := [(oc7 oM iM_thrown rM_tape iM_taped iM_size iM_at iM_end iM_token iM_whole iM_nameSize iM_fault iM_place iM_trouble rM_letters iM_failed iM_hasCourt rM_r rM_fresh rM_told rM_read rM_st rM_undone rM_kept iM_undos iM_images rM_fresher iM_fresherSize iM_scale iM_night rM_heardRow rM_cutRow iM_breaths iM_cutMany iM_allBreaths rM_trial rM_words iM_fewestBreaths iM_orderMany iM_orderSum iM_leastOrder rM_often iM_setMany iM_someOf iM_allOf iM_allWeight iM_enoughWeight iM_worthSum iM_firstRest iM_leastDrawn)]) hD hS hA [0] rfl
  refine va_callv (va_runV (As := []) (rest := []) ⟨hx, hb, hml, hown, hts⟩ (tX7_good l dC dI _ oM iM_thrown rM_tape iM_taped iM_size iM_at iM_end iM_token iM_whole iM_nameSize iM_fault iM_place iM_trouble rM_letters iM_failed iM_hasCourt rM_r rM_fresh rM_told rM_read rM_st rM_undone rM_kept iM_undos iM_images rM_fresher iM_fresherSize iM_scale iM_night rM_heardRow rM_cutRow iM_breaths iM_cutMany iM_allBreaths rM_trial rM_words iM_fewestBreaths iM_orderMany iM_orderSum iM_leastOrder rM_often iM_setMany iM_someOf iM_allOf iM_allWeight iM_enoughWeight iM_worthSum iM_firstRest iM_leastDrawn (by first | omega | decide) (by first | omega | decide) (by first | omega | decide) (by first | omega | decide) (by first | omega | decide) (by first | omega | decide) (by first | omega | decide) (by first | omega | decide) (by first | omega | decide) (by first | omega | decide)) (cwV 0 hts (wd_V wd_388 wd_389 wd_390 wd_5 (wd_c wd_391)) rfl rfl rfl (by decide +kernel) ⟨Nat.le_of_ble_eq_true rfl, Nat.le_of_ble_eq_true rfl⟩) ⟨Pw.fb, va_recv hK hP (ci := 7) (q0 := 0) rfl rfl, fun U hU hW => Pw.to (hP.sub [0] rfl) (hD.sub [0] (by decide) rfl) (hK.sub [] rfl) hE hS hFc hU hW⟩ rfl rfl hl.1 rfl (lv_room (Nat.le_of_ble_eq_true rfl)) dX7_sure_1 ⟨Nat.le_of_ble_eq_true rfl, Nat.le_of_ble_eq_true rfl⟩) hS (fun q _ h => hFc q h) hFc (fun u t H locs ht hvm hw hB hz1 hk1 hS => ?_)
  obtain ⟨x_2001, x_2002, b_x_2001, b_x_2002, e_x_2001_0, hB⟩ := hB
  obtain ⟨hP, hD, hK⟩ := Bw.go (ws' := [(arI rM_r kM_r 287 fM_r), (arI rM_told kM_told 90 fM_told), (arI rM_st kM_st 90 fM_st), (arI rM_trial kM_trial 90 fM_trial), (arI rM_words kM_words 10 fM_words), (oc7 oM x_2001 rM_tape iM_taped iM_size iM_at iM_end iM_token iM_whole iM_nameSize iM_fault iM_place x_2002 rM_letters iM_failed iM_hasCourt rM_r rM_fresh rM_told rM_read rM_st rM_undone rM_kept iM_undos iM_images rM_fresher iM_fresherSize iM_scale iM_night rM_heardRow rM_cutRow iM_breaths iM_cutMany iM_allBreaths rM_trial rM_words iM_fewestBreaths iM_orderMany iM_orderSum iM_leastOrder rM_often iM_setMany iM_someOf iM_allOf iM_allWeight iM_enoughWeight iM_worthSum iM_firstRest iM_leastDrawn)]) (tys' := [(kM_r, .int), (kM_told, .int), (kM_st, .int), (kM_trial, .int), (kM_words, .int)]) hB rfl ht hvm hP hD hK [0] [1, 2, 3, 4, 5] rfl (by decide) (by decide) [0, 1, 2, 3, 4] hk1 hFc rfl rfl rfl
  clear hz1 hk1 hvm ht hB
  have hG := hG.trans (un2_eq e_x_2001_0)
  refine lv_aload_n hx hb dX7_sure_4 rfl (lv_at hl 0 rfl) ?_
  rcases (id r_C) with r_C0 | r_C1
  · skip
    refine va_get (D := (dC, dI)) (ci := 7) (v := .int iM_hasCourt) (C := RX7) (T := TX7) (N := 48) hx hb hts inX7 hown hK hP 5 rfl rfl 14 (by decide) (hts _ wd_385) (fun _ h9 => h9) rfl dX7_sure_5 ?_
    refine lv_if_eq (tgt := 20) hx hb dX7_sure_8 (by decide) (fun c_2003 => ?_) (fun c_2003 => ?_)
    · skip
      have hG := hG.trans (if_pos c_2003)
      have gc_2003 := ti_eq c_2003 rfl kc_0
      refine lv_aload_n hx hb dX7_sure_20 rfl (lv_at hl 0 rfl) ?_
      refine lv_iconst (v := 1) hx hb dX7_sure_21 (by decide) ?_
      have hFc := va_free (wc := [(oc7 oM x_2001 rM_tape iM_taped iM_size iM_at iM_end iM_token iM_whole iM_nameSize iM_fault iM_place x_2002 rM_letters iM_failed iM_hasCourt rM_r rM_fresh rM_told rM_read rM_st rM_undone rM_kept iM_undos iM_images rM_fresher iM_fresherSize iM_scale iM_night rM_heardRow rM_cutRow iM_breaths iM_cutMany iM_allBreaths rM_trial rM_words iM_fewestBreaths iM_orderMany iM_orderSum iM_leastOrder rM_often iM_setMany iM_someOf iM_allOf iM_allWeight iM_enoughWeight iM_worthSum iM_firstRest iM_leastDrawn)]) hD hS hA [5] rfl
      refine va_calli (va_runV (As := [.int 1]) (rest := []) ⟨hx, hb, hml, hown, hts⟩ (tX7_no l dC dI _ oM x_2001 rM_tape iM_taped iM_size iM_at iM_end iM_token iM_whole iM_nameSize iM_fault iM_place x_2002 rM_letters iM_failed iM_hasCourt rM_r rM_fresh rM_told rM_read rM_st rM_undone rM_kept iM_undos iM_images rM_fresher iM_fresherSize iM_scale iM_night rM_heardRow rM_cutRow iM_breaths iM_cutMany iM_allBreaths rM_trial rM_words iM_fewestBreaths iM_orderMany iM_orderSum iM_leastOrder rM_often iM_setMany iM_someOf iM_allOf iM_allWeight iM_enoughWeight iM_worthSum iM_firstRest iM_leastDrawn 1 (by first | omega | decide) (by first | omega | decide) (by first | omega | decide) (by first | omega | decide) (by first | omega | decide) (by first | omega | decide) (by first | omega | decide) (by first | omega | decide) (by first | omega | decide) (by first | omega | decide)) (cwV 1 hts (wd_V wd_396 wd_397 wd_398 wd_5 (wd_c wd_399)) rfl rfl rfl (by decide +kernel) ⟨Nat.le_of_ble_eq_true rfl, Nat.le_of_ble_eq_true rfl⟩) ⟨Pw.fb, va_recv hK hP (ci := 7) (q0 := 5) rfl rfl, fun U hU hW => Pw.to (hP.sub [5] rfl) (hD.sub [5] (by decide) rfl) (hK.sub [] rfl) hE hS hFc hU hW⟩ rfl rfl hl.1 rfl (lv_room (Nat.le_of_ble_eq_true rfl)) dX7_sure_22 ⟨Nat.le_of_ble_eq_true rfl, Nat.le_of_ble_eq_true rfl⟩) hS (fun q _ h => hFc q h) hFc (fun r u t H locs ht hvm hw hB hz1 hk1 hS => ?_)
      have hru9 := hw.2
      have hw := hw.1
      obtain ⟨x_2004, e_x_2004_0, hB⟩ := hB
      obtain ⟨hP, hD, hK⟩ := Bw.go (ws' := [(arI rM_r kM_r 287 fM_r), (arI rM_told kM_told 90 fM_told), (arI rM_st kM_st 90 fM_st), (arI rM_trial kM_trial 90 fM_trial), (arI rM_words kM_words 10 fM_words), (oc7 oM x_2001 rM_tape iM_taped iM_size iM_at iM_end iM_token iM_whole iM_nameSize iM_fault iM_place x_2004 rM_letters iM_failed iM_hasCourt rM_r rM_fresh rM_told rM_read rM_st rM_undone rM_kept iM_undos iM_images rM_fresher iM_fresherSize iM_scale iM_night rM_heardRow rM_cutRow iM_breaths iM_cutMany iM_allBreaths rM_trial rM_words iM_fewestBreaths iM_orderMany iM_orderSum iM_leastOrder rM_often iM_setMany iM_someOf iM_allOf iM_allWeight iM_enoughWeight iM_worthSum iM_firstRest iM_leastDrawn)]) (tys' := [(kM_r, .int), (kM_told, .int), (kM_st, .int), (kM_trial, .int), (kM_words, .int)]) hB rfl ht hvm hP hD hK [5] [0, 1, 2, 3, 4] rfl (by decide) (by decide) [0, 1, 2, 3, 4] hk1 hFc rfl rfl rfl
      clear hz1 hk1 hvm ht hB
      rw [← hru9] at e_x_2004_0
      obtain ⟨x_2005, rfl⟩ : ∃ z, z = r := ⟨_, rfl⟩
      have hG := hG.trans (un2_eq e_x_2004_0)
      exact W.iret hx hb hr (fun t ht hW => ⟨⟨_, (cI x_2005), rfl, ⟨⟨trivial, trivial⟩, (cI_of x_2005)⟩, ⟨x_2001, x_2004, fM_trial, fM_words, (cI_tup hG), Bw.to (hP.sub [5, 0, 1, 2, 3, 4] rfl) (hD.sub [5, 0, 1, 2, 3, 4] (by decide) rfl) (hK.sub [0, 1, 2, 3, 4] rfl) ht hW⟩⟩, hS.F ht⟩) hS.2.2 dX7_sure_25
    · skip
      have hG := hG.trans (if_neg c_2003)
      have gc_2003 := ti_ne c_2003 rfl kc_0
      exfalso; clear hG; omega
  · skip
    refine va_get (D := (dC, dI)) (ci := 7) (v := .int iM_hasCourt) (C := RX7) (T := TX7) (N := 48) hx hb hts inX7 hown hK hP 5 rfl rfl 14 (by decide) (hts _ wd_385) (fun _ h9 => h9) rfl dX7_sure_5 ?_
    refine lv_if_eq (tgt := 20) hx hb dX7_sure_8 (by decide) (fun c_2006 => ?_) (fun c_2006 => ?_)
    · skip
      have hG := hG.trans (if_pos c_2006)
      have gc_2006 := ti_eq c_2006 rfl kc_0
      refine lv_aload_n hx hb dX7_sure_20 rfl (lv_at hl 0 rfl) ?_
      refine lv_iconst (v := 1) hx hb dX7_sure_21 (by decide) ?_
      have hFc := va_free (wc := [(oc7 oM x_2001 rM_tape iM_taped iM_size iM_at iM_end iM_token iM_whole iM_nameSize iM_fault iM_place x_2002 rM_letters iM_failed iM_hasCourt rM_r rM_fresh rM_told rM_read rM_st rM_undone rM_kept iM_undos iM_images rM_fresher iM_fresherSize iM_scale iM_night rM_heardRow rM_cutRow iM_breaths iM_cutMany iM_allBreaths rM_trial rM_words iM_fewestBreaths iM_orderMany iM_orderSum iM_leastOrder rM_often iM_setMany iM_someOf iM_allOf iM_allWeight iM_enoughWeight iM_worthSum iM_firstRest iM_leastDrawn)]) hD hS hA [5] rfl
      refine va_calli (va_runV (As := [.int 1]) (rest := []) ⟨hx, hb, hml, hown, hts⟩ (tX7_no l dC dI _ oM x_2001 rM_tape iM_taped iM_size iM_at iM_end iM_token iM_whole iM_nameSize iM_fault iM_place x_2002 rM_letters iM_failed iM_hasCourt rM_r rM_fresh rM_told rM_read rM_st rM_undone rM_kept iM_undos iM_images rM_fresher iM_fresherSize iM_scale iM_night rM_heardRow rM_cutRow iM_breaths iM_cutMany iM_allBreaths rM_trial rM_words iM_fewestBreaths iM_orderMany iM_orderSum iM_leastOrder rM_often iM_setMany iM_someOf iM_allOf iM_allWeight iM_enoughWeight iM_worthSum iM_firstRest iM_leastDrawn 1 (by first | omega | decide) (by first | omega | decide) (by first | omega | decide) (by first | omega | decide) (by first | omega | decide) (by first | omega | decide) (by first | omega | decide) (by first | omega | decide) (by first | omega | decide) (by first | omega | decide)) (cwV 1 hts (wd_V wd_396 wd_397 wd_398 wd_5 (wd_c wd_399)) rfl rfl rfl (by decide +kernel) ⟨Nat.le_of_ble_eq_true rfl, Nat.le_of_ble_eq_true rfl⟩) ⟨Pw.fb, va_recv hK hP (ci := 7) (q0 := 5) rfl rfl, fun U hU hW => Pw.to (hP.sub [5] rfl) (hD.sub [5] (by decide) rfl) (hK.sub [] rfl) hE hS hFc hU hW⟩ rfl rfl hl.1 rfl (lv_room (Nat.le_of_ble_eq_true rfl)) dX7_sure_22 ⟨Nat.le_of_ble_eq_true rfl, Nat.le_of_ble_eq_true rfl⟩) hS (fun q _ h => hFc q h) hFc (fun r u t H locs ht hvm hw hB hz1 hk1 hS => ?_)
      have hru9 := hw.2
      have hw := hw.1
      obtain ⟨x_2007, e_x_2007_0, hB⟩ := hB
      obtain ⟨hP, hD, hK⟩ := Bw.go (ws' := [(arI rM_r kM_r 287 fM_r), (arI rM_told kM_told 90 fM_told), (arI rM_st kM_st 90 fM_st), (arI rM_trial kM_trial 90 fM_trial), (arI rM_words kM_words 10 fM_words), (oc7 oM x_2001 rM_tape iM_taped iM_size iM_at iM_end iM_token iM_whole iM_nameSize iM_fault iM_place x_2007 rM_letters iM_failed iM_hasCourt rM_r rM_fresh rM_told rM_read rM_st rM_undone rM_kept iM_undos iM_images rM_fresher iM_fresherSize iM_scale iM_night rM_heardRow rM_cutRow iM_breaths iM_cutMany iM_allBreaths rM_trial rM_words iM_fewestBreaths iM_orderMany iM_orderSum iM_leastOrder rM_often iM_setMany iM_someOf iM_allOf iM_allWeight iM_enoughWeight iM_worthSum iM_firstRest iM_leastDrawn)]) (tys' := [(kM_r, .int), (kM_told, .int), (kM_st, .int), (kM_trial, .int), (kM_words, .int)]) hB rfl ht hvm hP hD hK [5] [0, 1, 2, 3, 4] rfl (by decide) (by decide) [0, 1, 2, 3, 4] hk1 hFc rfl rfl rfl
      clear hz1 hk1 hvm ht hB
      rw [← hru9] at e_x_2007_0
      obtain ⟨x_2008, rfl⟩ : ∃ z, z = r := ⟨_, rfl⟩
      have hG := hG.trans (un2_eq e_x_2007_0)
      exact W.iret hx hb hr (fun t ht hW => ⟨⟨_, (cI x_2008), rfl, ⟨⟨trivial, trivial⟩, (cI_of x_2008)⟩, ⟨x_2001, x_2007, fM_trial, fM_words, (cI_tup hG), Bw.to (hP.sub [5, 0, 1, 2, 3, 4] rfl) (hD.sub [5, 0, 1, 2, 3, 4] (by decide) rfl) (hK.sub [0, 1, 2, 3, 4] rfl) ht hW⟩⟩, hS.F ht⟩) hS.2.2 dX7_sure_25
    · skip
      have hG := hG.trans (if_neg c_2006)
      have gc_2006 := ti_ne c_2006 rfl kc_0
      refine lv_aload_n hx hb dX7_sure_11 rfl (lv_at hl 0 rfl) ?_
      refine lv_iconst (v := 2) hx hb dX7_sure_12 (by decide) ?_
      refine lv_iconst (v := 0) hx hb dX7_sure_13 (by decide) ?_
      have hFc := va_free (wc := [(oc7 oM x_2001 rM_tape iM_taped iM_size iM_at iM_end iM_token iM_whole iM_nameSize iM_fault iM_place x_2002 rM_letters iM_failed iM_hasCourt rM_r rM_fresh rM_told rM_read rM_st rM_undone rM_kept iM_undos iM_images rM_fresher iM_fresherSize iM_scale iM_night rM_heardRow rM_cutRow iM_breaths iM_cutMany iM_allBreaths rM_trial rM_words iM_fewestBreaths iM_orderMany iM_orderSum iM_leastOrder rM_often iM_setMany iM_someOf iM_allOf iM_allWeight iM_enoughWeight iM_worthSum iM_firstRest iM_leastDrawn), (arI rM_r kM_r 287 fM_r), (arI rM_told kM_told 90 fM_told), (arI rM_st kM_st 90 fM_st), (arI rM_trial kM_trial 90 fM_trial), (arI rM_words kM_words 10 fM_words)]) hD hS hA [5, 0, 1, 2, 3, 4] rfl
      refine va_calli (va_runV (As := [.int 2, .int 0]) (rest := []) ⟨hx, hb, hml, hown, hts⟩ (tX7_fewestFor l dC dI _ oM x_2001 rM_tape iM_taped iM_size iM_at iM_end iM_token iM_whole iM_nameSize iM_fault iM_place x_2002 rM_letters iM_failed iM_hasCourt rM_r fM_r kM_r rM_fresh rM_told fM_told kM_told rM_read rM_st fM_st kM_st rM_undone rM_kept iM_undos iM_images rM_fresher iM_fresherSize iM_scale iM_night rM_heardRow rM_cutRow iM_breaths iM_cutMany iM_allBreaths rM_trial fM_trial kM_trial rM_words fM_words kM_words iM_fewestBreaths iM_orderMany iM_orderSum iM_leastOrder rM_often iM_setMany iM_someOf iM_allOf iM_allWeight iM_enoughWeight iM_worthSum iM_firstRest iM_leastDrawn 2 0 (by first | omega | decide) (by first | omega | decide) (by first | omega | decide) (by first | omega | decide) (by first | omega | decide) (by first | omega | decide) (by first | omega | decide) (by first | omega | decide) (by first | omega | decide) (by first | omega | decide) (by assumption) (by assumption) (by assumption) (by assumption) (by assumption) (by first | omega | decide | assumption | (have q0 := kc_0; have q1 := kc_1; have q2 := kc_2; omega) | (intro h; exact absurd h (by decide)))) (cwV 2 hts (wd_V wd_961 wd_962 wd_963 wd_5 (wd_c wd_964)) rfl rfl rfl (by decide +kernel) ⟨Nat.le_of_ble_eq_true rfl, Nat.le_of_ble_eq_true rfl⟩) ⟨Pw.fb, va_recv hK hP (ci := 7) (q0 := 5) rfl rfl, fun U hU hW => Pw.to (hP.sub [5, 0, 1, 2, 3, 4] rfl) (hD.sub [5, 0, 1, 2, 3, 4] (by decide) rfl) (hK.sub [0, 1, 2, 3, 4] rfl) hE hS hFc hU hW⟩ rfl rfl hl.1 rfl (lv_room (Nat.le_of_ble_eq_true rfl)) dX7_sure_14 ⟨Nat.le_of_ble_eq_true rfl, Nat.le_of_ble_eq_true rfl⟩) hS (fun q _ h => hFc q h) hFc (fun r u t H locs ht hvm hw hB hz1 hk1 hS => ?_)
      have hru9 := hw.2
      have hw := hw.1
      obtain ⟨f_2009, f_2010, e_f_2009_0, hB⟩ := hB
      obtain ⟨hP, hD, hK⟩ := Bw.go (ws' := [(oc7 oM x_2001 rM_tape iM_taped iM_size iM_at iM_end iM_token iM_whole iM_nameSize iM_fault iM_place x_2002 rM_letters iM_failed iM_hasCourt rM_r rM_fresh rM_told rM_read rM_st rM_undone rM_kept iM_undos iM_images rM_fresher iM_fresherSize iM_scale iM_night rM_heardRow rM_cutRow iM_breaths iM_cutMany iM_allBreaths rM_trial rM_words iM_fewestBreaths iM_orderMany iM_orderSum iM_leastOrder rM_often iM_setMany iM_someOf iM_allOf iM_allWeight iM_enoughWeight iM_worthSum iM_firstRest iM_leastDrawn), (arI rM_r kM_r 287 fM_r), (arI rM_told kM_told 90 fM_told), (arI rM_st kM_st 90 fM_st), (arI rM_trial kM_trial 90 f_2009), (arI rM_words kM_words 10 f_2010)]) (tys' := [(kM_r, .int), (kM_told, .int), (kM_st, .int), (kM_trial, .int), (kM_words, .int)]) hB rfl ht hvm hP hD hK [5, 0, 1, 2, 3, 4] [] rfl (by decide) (by decide) [] hk1 hFc rfl rfl rfl
      clear hz1 hk1 hvm ht hB
      rw [← hru9] at e_f_2009_0
      obtain ⟨x_2011, rfl⟩ : ∃ z, z = r := ⟨_, rfl⟩
      have hG := hG.trans (un3_eq e_f_2009_0)
      refine lv_goto (tgt := 25) hx hb dX7_sure_17 (by decide) ?_
      exact W.iret hx hb hr (fun t ht hW => ⟨⟨_, (cI x_2011), rfl, ⟨⟨trivial, trivial⟩, (cI_of x_2011)⟩, ⟨x_2001, x_2002, f_2009, f_2010, (cI_tup hG), Bw.to (hP.sub [0, 1, 2, 3, 4, 5] rfl) (hD.sub [0, 1, 2, 3, 4, 5] (by decide) rfl) (hK.sub [0, 1, 2, 3, 4] rfl) ht hW⟩⟩, hS.F ht⟩) hS.2.2 dX7_sure_25
