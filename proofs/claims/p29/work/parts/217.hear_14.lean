set_option maxHeartbeats 4000000 in
set_option maxRecDepth 100000 in
theorem tX2_aboveAll (l : Launch) (dC : Nat → ClassId) (dI : Nat → Nat → Nat) (sz : Nat) (oC : Nat) (iC_nodes : Int32) (iC_words : Int32) (iC_chances : Int32) (iC_unsures : Int32) (iC_slips : Int32) (iC_throneNode : Int32) (iC_saidWorth : Int32) (iC_unit : Int32) (rC_kind : Nat) (rC_parts : Nat) (rC_partNodes : Nat) (rC_weights : Nat) (rC_weightSums : Nat) (rC_toldWorths : Nat) (rC_steps : Nat) (rC_below : Nat) (rC_above : Nat) (rC_unsureWords : Nat) (rC_unsureWorths : Nat) (b_iC_nodes : 0 ≤ iC_nodes.toInt ∧ iC_nodes.toInt ≤ 18) (b_iC_unsures : 0 ≤ iC_unsures.toInt ∧ iC_unsures.toInt ≤ 4) (b_iC_throneNode : (-1) ≤ iC_throneNode.toInt ∧ iC_throneNode.toInt ≤ 17)  : Met l yX2_aboveAll (Cond.code yX2_aboveAll cX2_aboveAll 1 (some .int) :: wG) ({ frames := 0, cells := 0, slots := 0, locals := 0 }) (va_Pc [.ref oC] (Pw dC dI sz [(oc1 oC iC_nodes iC_words iC_chances iC_unsures iC_slips iC_throneNode iC_saidWorth iC_unit rC_kind rC_parts rC_partNodes rC_weights rC_weightSums rC_toldWorths rC_steps rC_below rC_above rC_unsureWords rC_unsureWorths)] [])) (va_Qi (fun (r : Int32) (_ : Nat) => (True ∧ True) ∧ PX2_aboveAll iC_unit = r) (fun (_ : Nat) (t : State) => Bw dC dI (va_A [(oc1 oC iC_nodes iC_words iC_chances iC_unsures iC_slips iC_throneNode iC_saidWorth iC_unit rC_kind rC_parts rC_partNodes rC_weights rC_weightSums rC_toldWorths rC_steps rC_below rC_above rC_unsureWords rC_unsureWorths)] sz) [(oc1 oC iC_nodes iC_words iC_chances iC_unsures iC_slips iC_throneNode iC_saidWorth iC_unit rC_kind rC_parts rC_partNodes rC_weights rC_weightSums rC_toldWorths rC_steps rC_below rC_above rC_unsureWords rC_unsureWorths)] [] t) (va_A [(oc1 oC iC_nodes iC_words iC_chances iC_unsures iC_slips iC_throneNode iC_saidWorth iC_unit rC_kind rC_parts rC_partNodes rC_weights rC_weightSums rC_toldWorths rC_steps rC_below rC_above rC_unsureWords rC_unsureWorths)] sz)) 0 0 (va_A [(oc1 oC iC_nodes iC_words iC_chances iC_unsures iC_slips iC_throneNode iC_saidWorth iC_unit rC_kind rC_parts rC_partNodes rC_weights rC_weightSums rC_toldWorths rC_steps rC_below rC_above rC_unsureWords rC_unsureWorths)] sz) := by
  refine Met.ofW (cc := cX2_aboveAll) (maxL := 1) (ret := (some .int)) pnX2 rfl ?_
  intro p e s m args below meth c s₁ B hml hv
  obtain ⟨rfl, hsz, hP, hK, hD0, hE⟩ := hv
  have hx := B.exec
  have hb := B.bytes
  have hr := B.returns
  have hts : ∀ w ∈ wG, w.before ([.ref oC] : List Value).toArray s = true := fun w h => atoms_spec (ws := Cond.code yX2_aboveAll cX2_aboveAll 1 (some .int) :: wG) B.pre w (List.mem_cons_of_mem _ h)
  have hown : s.vm.findClass RX2 = some m.cls := own_of B.named rfl
  have hlocks := B.notSynchronized
  subst hsz
  have hD := hD0.self (sz := s.heap.size)
  generalize hAe : va_A [(oc1 oC iC_nodes iC_words iC_chances iC_unsures iC_slips iC_throneNode iC_saidWorth iC_unit rC_kind rC_parts rC_partNodes rC_weights rC_weightSums rC_toldWorths rC_steps rC_below rC_above rC_unsureWords rC_unsureWorths)] s.heap.size = A at hD hE ⊢
  have hA : ∀ q : Nat, s.heap.size ≤ q → A q := fun q h => by rw [← hAe]; exact Or.inr h
  have hS : va_S A s.heap s.heap [] := va_S.rf
  have hl := lv_entry ([.ref oC]) (n := 1) (Nat.le_of_ble_eq_true rfl)
  rw [lg_entry_eq]
  generalize (lg_sl ([.ref oC]) ++ List.replicate (1 - (lg_sl ([.ref oC])).length) Slot.unset).toArray = ls at hl ⊢
  have hl : lv_has ls 1 [(0, .ref oC)] := hl
  have hG := PX2_aboveAll_eq iC_unit
  refine lv_bipush (v := 100) hx hb dX2_aboveAll_0 (by decide) ?_
  refine lv_aload_n hx hb dX2_aboveAll_2 rfl (lv_at hl 0 rfl) ?_
  refine va_get (D := (dC, dI)) (ci := 1) (v := .int iC_unit) (C := RX1) (T := TX1) (N := 19) hx hb hts inX1 hown hK hP 0 rfl rfl 7 (by decide) (hts _ wd_729) (fun _ h9 => h9) rfl dX2_aboveAll_3 ?_
  refine lv_imul hx hb dX2_aboveAll_6 ?_
  refine lv_topi (fun x_1155 ex_1155 => ?_)
  have hG := hG.trans (lt_eq ex_1155)
  exact wq_i hx hb hr 0 ⟨⟨trivial, trivial⟩, hG⟩ (fun t ht hW => Bw.to hP hD hK ht hW) hS dX2_aboveAll_7 hlocks
set_option maxHeartbeats 4000000 in
set_option maxRecDepth 100000 in
theorem tX2_begin (l : Launch) (dC : Nat → ClassId) (dI : Nat → Nat → Nat) (sz : Nat) (oH : Nat) (iH_breaths : Int32) (iH_heardBits : Int32) (iH_cutCount : Int32) (iH_halfBreaths : Int32) (iH_halfQuestions : Int32) (rH_heardWords : Nat) (rH_cutParts : Nat) (b_iH_breaths : 0 ≤ iH_breaths.toInt ∧ iH_breaths.toInt ≤ 1000000000) (b_iH_cutCount : 0 ≤ iH_cutCount.toInt ∧ iH_cutCount.toInt ≤ 1000000000)  : Met l yX2_begin (Cond.code yX2_begin cX2_begin 1 none :: wG) ({ frames := 0, cells := 0, slots := 0, locals := 0 }) (va_Pc [.ref oH] (Pw dC dI sz [(oc2 oH iH_breaths iH_heardBits iH_cutCount iH_halfBreaths iH_halfQuestions rH_heardWords rH_cutParts)] [])) (va_Qv (fun (_ : Nat) => True) (fun (_ : Nat) (t : State) => ∃ (niH_breaths : Int32) (niH_heardBits : Int32) (niH_cutCount : Int32), (0 ≤ niH_breaths.toInt ∧ niH_breaths.toInt ≤ 0) ∧ (0 ≤ niH_heardBits.toInt ∧ niH_heardBits.toInt ≤ 0) ∧ (0 ≤ niH_cutCount.toInt ∧ niH_cutCount.toInt ≤ 0) ∧ (PX2_begin = (niH_breaths, niH_heardBits, niH_cutCount)) ∧ Bw dC dI (va_A [(oc2 oH iH_breaths iH_heardBits iH_cutCount iH_halfBreaths iH_halfQuestions rH_heardWords rH_cutParts)] sz) [(oc2 oH niH_breaths niH_heardBits niH_cutCount iH_halfBreaths iH_halfQuestions rH_heardWords rH_cutParts)] [] t) (va_A [(oc2 oH iH_breaths iH_heardBits iH_cutCount iH_halfBreaths iH_halfQuestions rH_heardWords rH_cutParts)] sz)) 0 0 (va_A [(oc2 oH iH_breaths iH_heardBits iH_cutCount iH_halfBreaths iH_halfQuestions rH_heardWords rH_cutParts)] sz) := by
  refine Met.ofW (cc := cX2_begin) (maxL := 1) (ret := none) pnX2 rfl ?_
  intro p e s m args below meth c s₁ B hml hv
  obtain ⟨rfl, hsz, hP, hK, hD0, hE⟩ := hv
  have hx := B.exec
  have hb := B.bytes
  have hr := B.returns
  have hts : ∀ w ∈ wG, w.before ([.ref oH] : List Value).toArray s = true := fun w h => atoms_spec (ws := Cond.code yX2_begin cX2_begin 1 none :: wG) B.pre w (List.mem_cons_of_mem _ h)
  have hown : s.vm.findClass RX2 = some m.cls := own_of B.named rfl
  have hlocks := B.notSynchronized
  subst hsz
  have hD := hD0.self (sz := s.heap.size)
  generalize hAe : va_A [(oc2 oH iH_breaths iH_heardBits iH_cutCount iH_halfBreaths iH_halfQuestions rH_heardWords rH_cutParts)] s.heap.size = A at hD hE ⊢
  have hA : ∀ q : Nat, s.heap.size ≤ q → A q := fun q h => by rw [← hAe]; exact Or.inr h
  have hS : va_S A s.heap s.heap [] := va_S.rf
  have hl := lv_entry ([.ref oH]) (n := 1) (Nat.le_of_ble_eq_true rfl)
  rw [lg_entry_eq]
  generalize (lg_sl ([.ref oH]) ++ List.replicate (1 - (lg_sl ([.ref oH])).length) Slot.unset).toArray = ls at hl ⊢
  have hl : lv_has ls 1 [(0, .ref oH)] := hl
  have hG := PX2_begin_eq
  refine lv_aload_n hx hb dX2_begin_0 rfl (lv_at hl 0 rfl) ?_
  refine lv_iconst (v := 0) hx hb dX2_begin_1 (by decide) ?_
  refine va_put (D := (dC, dI)) (ci := 2) (v := .int 0) (ty := .int) (C := RX2) (T := TX2) (N := 7) hx hb hts inX2 tyX2 tyX2_ok nmX2 hown hK hP hD hS 0 rfl rfl 0 (by decide) (hts _ wd_719) (fun _ h9 => h9) rfl (by decide +kernel) rfl rfl (Nat.le_of_ble_eq_true rfl) dX2_begin_2 (fun H locs hP hD hS => ?_)
  obtain ⟨hP, hD⟩ := wl2 (ws' := [(oc2 oH 0 iH_heardBits iH_cutCount iH_halfBreaths iH_halfQuestions rH_heardWords rH_cutParts)]) hP hD rfl
  refine lv_aload_n hx hb dX2_begin_5 rfl (lv_at hl 0 rfl) ?_
  refine lv_iconst (v := 0) hx hb dX2_begin_6 (by decide) ?_
  refine va_put (D := (dC, dI)) (ci := 2) (v := .int 0) (ty := .int) (C := RX2) (T := TX2) (N := 7) hx hb hts inX2 tyX2 tyX2_ok nmX2 hown hK hP hD hS 0 rfl rfl 1 (by decide) (hts _ wd_724) (fun _ h9 => h9) rfl (by decide +kernel) rfl rfl (Nat.le_of_ble_eq_true rfl) dX2_begin_7 (fun H locs hP hD hS => ?_)
  obtain ⟨hP, hD⟩ := wl2 (ws' := [(oc2 oH 0 0 iH_cutCount iH_halfBreaths iH_halfQuestions rH_heardWords rH_cutParts)]) hP hD rfl
  refine lv_aload_n hx hb dX2_begin_10 rfl (lv_at hl 0 rfl) ?_
  refine lv_iconst (v := 0) hx hb dX2_begin_11 (by decide) ?_
  refine va_put (D := (dC, dI)) (ci := 2) (v := .int 0) (ty := .int) (C := RX2) (T := TX2) (N := 7) hx hb hts inX2 tyX2 tyX2_ok nmX2 hown hK hP hD hS 0 rfl rfl 2 (by decide) (hts _ wd_725) (fun _ h9 => h9) rfl (by decide +kernel) rfl rfl (Nat.le_of_ble_eq_true rfl) dX2_begin_12 (fun H locs hP hD hS => ?_)
  obtain ⟨hP, hD⟩ := wl2 (ws' := [(oc2 oH 0 0 0 iH_halfBreaths iH_halfQuestions rH_heardWords rH_cutParts)]) hP hD rfl
  exact wq_v hx hb hr 0 trivial (fun t ht hW => ⟨0, 0, 0, (by decide), (by decide), (by decide), hG, Bw.to hP hD hK ht hW⟩) hS dX2_begin_15 hlocks
set_option maxHeartbeats 4000000 in
set_option maxRecDepth 100000 in
theorem tX2_wordAt (l : Launch) (dC : Nat → ClassId) (dI : Nat → Nat → Nat) (sz : Nat) (oH : Nat) (iH_breaths : Int32) (iH_heardBits : Int32) (iH_cutCount : Int32) (iH_halfBreaths : Int32) (iH_halfQuestions : Int32) (rH_heardWords : Nat) (fH_heardWords : Nat → Int32) (kH_heardWords : ClassId) (rH_cutParts : Nat) (p0 : Int32) (b_iH_breaths : 0 ≤ iH_breaths.toInt ∧ iH_breaths.toInt ≤ 1000000000) (b_iH_cutCount : 0 ≤ iH_cutCount.toInt ∧ iH_cutCount.toInt ≤ 1000000000)  : Met l yX2_wordAt (Cond.code yX2_wordAt cX2_wordAt 2 (some .int) :: wG) ({ frames := 0, cells := 0, slots := 0, locals := 0 }) (va_Pc [.ref oH, .int p0] (Pw dC dI sz [(oc2 oH iH_breaths iH_heardBits iH_cutCount iH_halfBreaths iH_halfQuestions rH_heardWords rH_cutParts), (arI rH_heardWords kH_heardWords 512 fH_heardWords)] [(kH_heardWords, .int)])) (va_Qi (fun (r : Int32) (_ : Nat) => (True ∧ True) ∧ PX2_wordAt iH_breaths fH_heardWords p0 = r) (fun (_ : Nat) (t : State) => Bw dC dI (va_A [(oc2 oH iH_breaths iH_heardBits iH_cutCount iH_halfBreaths iH_halfQuestions rH_heardWords rH_cutParts), (arI rH_heardWords kH_heardWords 512 fH_heardWords)] sz) [(oc2 oH iH_breaths iH_heardBits iH_cutCount iH_halfBreaths iH_halfQuestions rH_heardWords rH_cutParts), (arI rH_heardWords kH_heardWords 512 fH_heardWords)] [(kH_heardWords, .int)] t) (va_A [(oc2 oH iH_breaths iH_heardBits iH_cutCount iH_halfBreaths iH_halfQuestions rH_heardWords rH_cutParts), (arI rH_heardWords kH_heardWords 512 fH_heardWords)] sz)) 0 0 (va_A [(oc2 oH iH_breaths iH_heardBits iH_cutCount iH_halfBreaths iH_halfQuestions rH_heardWords rH_cutParts), (arI rH_heardWords kH_heardWords 512 fH_heardWords)] sz) := by
  refine Met.ofW (cc := cX2_wordAt) (maxL := 2) (ret := (some .int)) pnX2 rfl ?_
  intro p e s m args below meth c s₁ B hml hv
  obtain ⟨rfl, hsz, hP, hK, hD0, hE⟩ := hv
  have hx := B.exec
  have hb := B.bytes
  have hr := B.returns
  have hts : ∀ w ∈ wG, w.before ([.ref oH, .int p0] : List Value).toArray s = true := fun w h => atoms_spec (ws := Cond.code yX2_wordAt cX2_wordAt 2 (some .int) :: wG) B.pre w (List.mem_cons_of_mem _ h)
  have hown : s.vm.findClass RX2 = some m.cls := own_of B.named rfl
  have hlocks := B.notSynchronized
  subst hsz
  have hD := hD0.self (sz := s.heap.size)
  generalize hAe : va_A [(oc2 oH iH_breaths iH_heardBits iH_cutCount iH_halfBreaths iH_halfQuestions rH_heardWords rH_cutParts), (arI rH_heardWords kH_heardWords 512 fH_heardWords)] s.heap.size = A at hD hE ⊢
  have hA : ∀ q : Nat, s.heap.size ≤ q → A q := fun q h => by rw [← hAe]; exact Or.inr h
  have hS : va_S A s.heap s.heap [] := va_S.rf
  have hl := lv_entry ([.ref oH, .int p0]) (n := 2) (Nat.le_of_ble_eq_true rfl)
  rw [lg_entry_eq]
  generalize (lg_sl ([.ref oH, .int p0]) ++ List.replicate (2 - (lg_sl ([.ref oH, .int p0])).length) Slot.unset).toArray = ls at hl ⊢
  have hl : lv_has ls 2 [(0, .ref oH), (1, .int p0)] := hl
  have hG := PX2_wordAt_eq iH_breaths fH_heardWords p0
  refine lv_iload_n hx hb dX2_wordAt_0 rfl (lv_at hl 1 rfl) ?_
  refine lv_if_lt (tgt := 28) hx hb dX2_wordAt_1 (by decide) (fun c_1160 => ?_) (fun c_1160 => ?_)
  · skip
    have hG := hG.trans (if_pos c_1160)
    have gc_1160 := ti_lt c_1160 rfl kc_0
    refine lv_iconst (v := (-1)) hx hb dX2_wordAt_28 (by decide) ?_
    exact wq_i hx hb hr 0 ⟨⟨trivial, trivial⟩, hG⟩ (fun t ht hW => Bw.to hP hD hK ht hW) hS dX2_wordAt_29 hlocks
  · skip
    have hG := hG.trans (if_neg c_1160)
    have gc_1160 := ti_nlt c_1160 rfl kc_0
    refine lv_iload_n hx hb dX2_wordAt_4 rfl (lv_at hl 1 rfl) ?_
    refine lv_aload_n hx hb dX2_wordAt_5 rfl (lv_at hl 0 rfl) ?_
    refine va_get (D := (dC, dI)) (ci := 2) (v := .int iH_breaths) (C := RX2) (T := TX2) (N := 7) hx hb hts inX2 hown hK hP 0 rfl rfl 0 (by decide) (hts _ wd_719) (fun _ h9 => h9) rfl dX2_wordAt_6 ?_
    refine lv_icmp_ge (tgt := 28) hx hb dX2_wordAt_9 (by decide) (fun c_1161 => ?_) (fun c_1161 => ?_)
    · skip
      have hG := hG.trans (if_pos c_1161)
      have gc_1161 := ti_le c_1161 rfl rfl
      refine lv_iconst (v := (-1)) hx hb dX2_wordAt_28 (by decide) ?_
      exact wq_i hx hb hr 0 ⟨⟨trivial, trivial⟩, hG⟩ (fun t ht hW => Bw.to hP hD hK ht hW) hS dX2_wordAt_29 hlocks
    · skip
      have hG := hG.trans (if_neg c_1161)
      have gc_1161 := ti_nle c_1161 rfl rfl
      refine lv_iload_n hx hb dX2_wordAt_12 rfl (lv_at hl 1 rfl) ?_
      refine lv_sipush (v := 512) hx hb dX2_wordAt_13 (by decide) ?_
      refine lv_icmp_ge (tgt := 28) hx hb dX2_wordAt_16 (by decide) (fun c_1162 => ?_) (fun c_1162 => ?_)
      · skip
        have hG := hG.trans (if_pos c_1162)
        have gc_1162 := ti_le c_1162 kc_512 rfl
        refine lv_iconst (v := (-1)) hx hb dX2_wordAt_28 (by decide) ?_
        exact wq_i hx hb hr 0 ⟨⟨trivial, trivial⟩, hG⟩ (fun t ht hW => Bw.to hP hD hK ht hW) hS dX2_wordAt_29 hlocks
      · skip
        have hG := hG.trans (if_neg c_1162)
        have gc_1162 := ti_nle c_1162 kc_512 rfl
        refine lv_aload_n hx hb dX2_wordAt_19 rfl (lv_at hl 0 rfl) ?_
        refine va_get (D := (dC, dI)) (ci := 2) (v := .ref rH_heardWords) (C := RX2) (T := TX2) (N := 7) hx hb hts inX2 hown hK hP 0 rfl rfl 5 (by decide) (hts _ wd_141) (fun _ h9 => h9) rfl dX2_wordAt_20 ?_
        refine lv_iload_n hx hb dX2_wordAt_23 rfl (lv_at hl 1 rfl) ?_
        refine va_iald hx hb hK hP 1 0 rfl rfl (ti_in rfl gc_1160 (om_54bc71e0 gc_1162)) dX2_wordAt_24 ?_
        refine lv_topi (fun x_1163 ex_1163 => ?_)
        have hG := hG.trans (lt_eq ex_1163)
        have kx_1163 : (fH_heardWords p0.toNatClampNeg).toInt = x_1163.toInt := by rw [ex_1163]
        refine lv_goto (tgt := 29) hx hb dX2_wordAt_25 (by decide) ?_
        exact wq_i hx hb hr 0 ⟨⟨trivial, trivial⟩, hG⟩ (fun t ht hW => Bw.to hP hD hK ht hW) hS dX2_wordAt_29 hlocks
set_option maxHeartbeats 4000000 in
set_option maxRecDepth 100000 in
theorem tX2_cutPartAt (l : Launch) (dC : Nat → ClassId) (dI : Nat → Nat → Nat) (sz : Nat) (oH : Nat) (iH_breaths : Int32) (iH_heardBits : Int32) (iH_cutCount : Int32) (iH_halfBreaths : Int32) (iH_halfQuestions : Int32) (rH_heardWords : Nat) (rH_cutParts : Nat) (fH_cutParts : Nat → Int32) (kH_cutParts : ClassId) (p0 : Int32) (b_iH_breaths : 0 ≤ iH_breaths.toInt ∧ iH_breaths.toInt ≤ 1000000000) (b_iH_cutCount : 0 ≤ iH_cutCount.toInt ∧ iH_cutCount.toInt ≤ 1000000000)  : Met l yX2_cutPartAt (Cond.code yX2_cutPartAt cX2_cutPartAt 2 (some .int) :: wG) ({ frames := 0, cells := 0, slots := 0, locals := 0 }) (va_Pc [.ref oH, .int p0] (Pw dC dI sz [(oc2 oH iH_breaths iH_heardBits iH_cutCount iH_halfBreaths iH_halfQuestions rH_heardWords rH_cutParts), (arI rH_cutParts kH_cutParts 512 fH_cutParts)] [(kH_cutParts, .int)])) (va_Qi (fun (r : Int32) (_ : Nat) => (True ∧ True) ∧ PX2_cutPartAt iH_cutCount fH_cutParts p0 = r) (fun (_ : Nat) (t : State) => Bw dC dI (va_A [(oc2 oH iH_breaths iH_heardBits iH_cutCount iH_halfBreaths iH_halfQuestions rH_heardWords rH_cutParts), (arI rH_cutParts kH_cutParts 512 fH_cutParts)] sz) [(oc2 oH iH_breaths iH_heardBits iH_cutCount iH_halfBreaths iH_halfQuestions rH_heardWords rH_cutParts), (arI rH_cutParts kH_cutParts 512 fH_cutParts)] [(kH_cutParts, .int)] t) (va_A [(oc2 oH iH_breaths iH_heardBits iH_cutCount iH_halfBreaths iH_halfQuestions rH_heardWords rH_cutParts), (arI rH_cutParts kH_cutParts 512 fH_cutParts)] sz)) 0 0 (va_A [(oc2 oH iH_breaths iH_heardBits iH_cutCount iH_halfBreaths iH_halfQuestions rH_heardWords rH_cutParts), (arI rH_cutParts kH_cutParts 512 fH_cutParts)] sz) := by
  refine Met.ofW (cc := cX2_cutPartAt) (maxL := 2) (ret := (some .int)) pnX2 rfl ?_
  intro p e s m args below meth c s₁ B hml hv
  obtain ⟨rfl, hsz, hP, hK, hD0, hE⟩ := hv
  have hx := B.exec
  have hb := B.bytes
  have hr := B.returns
  have hts : ∀ w ∈ wG, w.before ([.ref oH, .int p0] : List Value).toArray s = true := fun w h => atoms_spec (ws := Cond.code yX2_cutPartAt cX2_cutPartAt 2 (some .int) :: wG) B.pre w (List.mem_cons_of_mem _ h)
  have hown : s.vm.findClass RX2 = some m.cls := own_of B.named rfl
  have hlocks := B.notSynchronized
  subst hsz
  have hD := hD0.self (sz := s.heap.size)
  generalize hAe : va_A [(oc2 oH iH_breaths iH_heardBits iH_cutCount iH_halfBreaths iH_halfQuestions rH_heardWords rH_cutParts), (arI rH_cutParts kH_cutParts 512 fH_cutParts)] s.heap.size = A at hD hE ⊢
  have hA : ∀ q : Nat, s.heap.size ≤ q → A q := fun q h => by rw [← hAe]; exact Or.inr h
  have hS : va_S A s.heap s.heap [] := va_S.rf
  have hl := lv_entry ([.ref oH, .int p0]) (n := 2) (Nat.le_of_ble_eq_true rfl)
  rw [lg_entry_eq]
  generalize (lg_sl ([.ref oH, .int p0]) ++ List.replicate (2 - (lg_sl ([.ref oH, .int p0])).length) Slot.unset).toArray = ls at hl ⊢
  have hl : lv_has ls 2 [(0, .ref oH), (1, .int p0)] := hl
  have hG := PX2_cutPartAt_eq iH_cutCount fH_cutParts p0
  refine lv_iload_n hx hb dX2_cutPartAt_0 rfl (lv_at hl 1 rfl) ?_
  refine lv_if_lt (tgt := 28) hx hb dX2_cutPartAt_1 (by decide) (fun c_1168 => ?_) (fun c_1168 => ?_)
  · skip
    have hG := hG.trans (if_pos c_1168)
    have gc_1168 := ti_lt c_1168 rfl kc_0
    refine lv_iconst (v := (-1)) hx hb dX2_cutPartAt_28 (by decide) ?_
    exact wq_i hx hb hr 0 ⟨⟨trivial, trivial⟩, hG⟩ (fun t ht hW => Bw.to hP hD hK ht hW) hS dX2_cutPartAt_29 hlocks
  · skip
    have hG := hG.trans (if_neg c_1168)
    have gc_1168 := ti_nlt c_1168 rfl kc_0
    refine lv_iload_n hx hb dX2_cutPartAt_4 rfl (lv_at hl 1 rfl) ?_
    refine lv_aload_n hx hb dX2_cutPartAt_5 rfl (lv_at hl 0 rfl) ?_
    refine va_get (D := (dC, dI)) (ci := 2) (v := .int iH_cutCount) (C := RX2) (T := TX2) (N := 7) hx hb hts inX2 hown hK hP 0 rfl rfl 2 (by decide) (hts _ wd_725) (fun _ h9 => h9) rfl dX2_cutPartAt_6 ?_
    refine lv_icmp_ge (tgt := 28) hx hb dX2_cutPartAt_9 (by decide) (fun c_1169 => ?_) (fun c_1169 => ?_)
    · skip
      have hG := hG.trans (if_pos c_1169)
      have gc_1169 := ti_le c_1169 rfl rfl
      refine lv_iconst (v := (-1)) hx hb dX2_cutPartAt_28 (by decide) ?_
      exact wq_i hx hb hr 0 ⟨⟨trivial, trivial⟩, hG⟩ (fun t ht hW => Bw.to hP hD hK ht hW) hS dX2_cutPartAt_29 hlocks
    · skip
      have hG := hG.trans (if_neg c_1169)
      have gc_1169 := ti_nle c_1169 rfl rfl
      refine lv_iload_n hx hb dX2_cutPartAt_12 rfl (lv_at hl 1 rfl) ?_
      refine lv_sipush (v := 512) hx hb dX2_cutPartAt_13 (by decide) ?_
      refine lv_icmp_ge (tgt := 28) hx hb dX2_cutPartAt_16 (by decide) (fun c_1170 => ?_) (fun c_1170 => ?_)
      · skip
        have hG := hG.trans (if_pos c_1170)
        have gc_1170 := ti_le c_1170 kc_512 rfl
        refine lv_iconst (v := (-1)) hx hb dX2_cutPartAt_28 (by decide) ?_
        exact wq_i hx hb hr 0 ⟨⟨trivial, trivial⟩, hG⟩ (fun t ht hW => Bw.to hP hD hK ht hW) hS dX2_cutPartAt_29 hlocks
      · skip
        have hG := hG.trans (if_neg c_1170)
        have gc_1170 := ti_nle c_1170 kc_512 rfl
        refine lv_aload_n hx hb dX2_cutPartAt_19 rfl (lv_at hl 0 rfl) ?_
        refine va_get (D := (dC, dI)) (ci := 2) (v := .ref rH_cutParts) (C := RX2) (T := TX2) (N := 7) hx hb hts inX2 hown hK hP 0 rfl rfl 6 (by decide) (hts _ wd_142) (fun _ h9 => h9) rfl dX2_cutPartAt_20 ?_
        refine lv_iload_n hx hb dX2_cutPartAt_23 rfl (lv_at hl 1 rfl) ?_
        refine va_iald hx hb hK hP 1 0 rfl rfl (ti_in rfl gc_1168 (om_54bc71e0 gc_1170)) dX2_cutPartAt_24 ?_
        refine lv_topi (fun x_1171 ex_1171 => ?_)
        have hG := hG.trans (lt_eq ex_1171)
        have kx_1171 : (fH_cutParts p0.toNatClampNeg).toInt = x_1171.toInt := by rw [ex_1171]
        refine lv_goto (tgt := 29) hx hb dX2_cutPartAt_25 (by decide) ?_
        exact wq_i hx hb hr 0 ⟨⟨trivial, trivial⟩, hG⟩ (fun t ht hW => Bw.to hP hD hK ht hW) hS dX2_cutPartAt_29 hlocks
set_option maxHeartbeats 4000000 in
set_option maxRecDepth 100000 in
theorem tX2_noteWord (l : Launch) (dC : Nat → ClassId) (dI : Nat → Nat → Nat) (sz : Nat) (oH : Nat) (iH_breaths : Int32) (iH_heardBits : Int32) (iH_cutCount : Int32) (iH_halfBreaths : Int32) (iH_halfQuestions : Int32) (rH_heardWords : Nat) (fH_heardWords : Nat → Int32) (kH_heardWords : ClassId) (rH_cutParts : Nat) (p0 : Int32) (b_iH_breaths : 0 ≤ iH_breaths.toInt ∧ iH_breaths.toInt ≤ 1000000000) (b_iH_cutCount : 0 ≤ iH_cutCount.toInt ∧ iH_cutCount.toInt ≤ 1000000000) (hbr : iH_breaths.toInt + 1 ≤ 1000000000) : Met l yX2_noteWord (Cond.code yX2_noteWord cX2_noteWord 2 none :: wG) ({ frames := 0, cells := 0, slots := 0, locals := 0 }) (va_Pc [.ref oH, .int p0] (Pw dC dI sz [(oc2 oH iH_breaths iH_heardBits iH_cutCount iH_halfBreaths iH_halfQuestions rH_heardWords rH_cutParts), (arI rH_heardWords kH_heardWords 512 fH_heardWords)] [(kH_heardWords, .int)])) (va_Qv (fun (_ : Nat) => True) (fun (_ : Nat) (t : State) => ∃ (niH_breaths : Int32) (niH_heardBits : Int32) (nfH_heardWords : Nat → Int32), (0 ≤ niH_breaths.toInt ∧ niH_breaths.toInt ≤ 1000000000) ∧ (niH_breaths.toInt ≤ iH_breaths.toInt + 1) ∧ (PX2_noteWord iH_breaths iH_heardBits fH_heardWords p0 = (niH_breaths, niH_heardBits, nfH_heardWords)) ∧ Bw dC dI (va_A [(oc2 oH iH_breaths iH_heardBits iH_cutCount iH_halfBreaths iH_halfQuestions rH_heardWords rH_cutParts), (arI rH_heardWords kH_heardWords 512 fH_heardWords)] sz) [(oc2 oH niH_breaths niH_heardBits iH_cutCount iH_halfBreaths iH_halfQuestions rH_heardWords rH_cutParts), (arI rH_heardWords kH_heardWords 512 nfH_heardWords)] [(kH_heardWords, .int)] t) (va_A [(oc2 oH iH_breaths iH_heardBits iH_cutCount iH_halfBreaths iH_halfQuestions rH_heardWords rH_cutParts), (arI rH_heardWords kH_heardWords 512 fH_heardWords)] sz)) 0 0 (va_A [(oc2 oH iH_breaths iH_heardBits iH_cutCount iH_halfBreaths iH_halfQuestions rH_heardWords rH_cutParts), (arI rH_heardWords kH_heardWords 512 fH_heardWords)] sz) := by
  refine Met.ofW (cc := cX2_noteWord) (maxL := 2) (ret := none) pnX2 rfl ?_
  intro p e s m args below meth c s₁ B hml hv
  obtain ⟨rfl, hsz, hP, hK, hD0, hE⟩ := hv
  have hx := B.exec
  have hb := B.bytes
  have hr := B.returns
  have hts : ∀ w ∈ wG, w.before ([.ref oH, .int p0] : List Value).toArray s = true := fun w h => atoms_spec (ws := Cond.code yX2_noteWord cX2_noteWord 2 none :: wG) B.pre w (List.mem_cons_of_mem _ h)
  have hown : s.vm.findClass RX2 = some m.cls := own_of B.named rfl
  have hlocks := B.notSynchronized
  subst hsz
  have hD := hD0.self (sz := s.heap.size)
  generalize hAe : va_A [(oc2 oH iH_breaths iH_heardBits iH_cutCount iH_halfBreaths iH_halfQuestions rH_heardWords rH_cutParts), (arI rH_heardWords kH_heardWords 512 fH_heardWords)] s.heap.size = A at hD hE ⊢
  have hA : ∀ q : Nat, s.heap.size ≤ q → A q := fun q h => by rw [← hAe]; exact Or.inr h
  have hS : va_S A s.heap s.heap [] := va_S.rf
  have hl := lv_entry ([.ref oH, .int p0]) (n := 2) (Nat.le_of_ble_eq_true rfl)
  rw [lg_entry_eq]
  generalize (lg_sl ([.ref oH, .int p0]) ++ List.replicate (2 - (lg_sl ([.ref oH, .int p0])).length) Slot.unset).toArray = ls at hl ⊢
  have hl : lv_has ls 2 [(0, .ref oH), (1, .int p0)] := hl
  have hG := PX2_noteWord_eq iH_breaths iH_heardBits fH_heardWords p0
  refine lv_aload_n hx hb dX2_noteWord_0 rfl (lv_at hl 0 rfl) ?_
  refine va_get (D := (dC, dI)) (ci := 2) (v := .int iH_breaths) (C := RX2) (T := TX2) (N := 7) hx hb hts inX2 hown hK hP 0 rfl rfl 0 (by decide) (hts _ wd_719) (fun _ h9 => h9) rfl dX2_noteWord_1 ?_
  refine lv_sipush (v := 512) hx hb dX2_noteWord_4 (by decide) ?_
  refine lv_icmp_ge (tgt := 20) hx hb dX2_noteWord_7 (by decide) (fun c_1180 => ?_) (fun c_1180 => ?_)
  · skip
    have hG := hG.trans (if_pos c_1180)
    have gc_1180 := ti_le c_1180 kc_512 rfl
    refine lv_aload_n hx hb dX2_noteWord_20 rfl (lv_at hl 0 rfl) ?_
    refine lv_dup hx hb dX2_noteWord_21 rfl ?_
    refine va_get (D := (dC, dI)) (ci := 2) (v := .int iH_breaths) (C := RX2) (T := TX2) (N := 7) hx hb hts inX2 hown hK hP 0 rfl rfl 0 (by decide) (hts _ wd_719) (fun _ h9 => h9) rfl dX2_noteWord_22 ?_
    refine lv_iconst (v := 1) hx hb dX2_noteWord_25 (by decide) ?_
    refine lv_iadd hx hb dX2_noteWord_26 ?_
    refine lv_topi (fun x_1181 ex_1181 => ?_)
    have hG := hG.trans (lt_eq ex_1181)
    have vx_1181 : x_1181.toInt = iH_breaths.toInt + 1 := ti_add ex_1181 rfl kc_1 (om_4e4fce7e b_iH_breaths.1) (om_46d04684 b_iH_breaths.2)
    refine va_put (D := (dC, dI)) (ci := 2) (v := .int x_1181) (ty := .int) (C := RX2) (T := TX2) (N := 7) hx hb hts inX2 tyX2 tyX2_ok nmX2 hown hK hP hD hS 0 rfl rfl 0 (by decide) (hts _ wd_719) (fun _ h9 => h9) rfl (by decide +kernel) rfl rfl (Nat.le_of_ble_eq_true rfl) dX2_noteWord_27 (fun H locs hP hD hS => ?_)
    obtain ⟨hP, hD⟩ := wl2 (ws' := [(oc2 oH x_1181 iH_heardBits iH_cutCount iH_halfBreaths iH_halfQuestions rH_heardWords rH_cutParts), (arI rH_heardWords kH_heardWords 512 fH_heardWords)]) hP hD rfl
    refine lv_aload_n hx hb dX2_noteWord_30 rfl (lv_at hl 0 rfl) ?_
    refine lv_dup hx hb dX2_noteWord_31 rfl ?_
    refine va_get (D := (dC, dI)) (ci := 2) (v := .int iH_heardBits) (C := RX2) (T := TX2) (N := 7) hx hb hts inX2 hown hK hP 0 rfl rfl 1 (by decide) (hts _ wd_724) (fun _ h9 => h9) rfl dX2_noteWord_32 ?_
    refine lv_iconst (v := 1) hx hb dX2_noteWord_35 (by decide) ?_
    refine lv_iload_n hx hb dX2_noteWord_36 rfl (lv_at hl 1 rfl) ?_
    refine lv_ishl hx hb dX2_noteWord_37 ?_
    refine lv_topi (fun x_1182 ex_1182 => ?_)
    have hG := hG.trans (lt_eq ex_1182)
    refine lv_ior hx hb dX2_noteWord_38 ?_
    refine lv_topi (fun x_1183 ex_1183 => ?_)
    have hG := hG.trans (lt_eq ex_1183)
    refine va_put (D := (dC, dI)) (ci := 2) (v := .int x_1183) (ty := .int) (C := RX2) (T := TX2) (N := 7) hx hb hts inX2 tyX2 tyX2_ok nmX2 hown hK hP hD hS 0 rfl rfl 1 (by decide) (hts _ wd_724) (fun _ h9 => h9) rfl (by decide +kernel) rfl rfl (Nat.le_of_ble_eq_true rfl) dX2_noteWord_39 (fun H locs hP hD hS => ?_)
    obtain ⟨hP, hD⟩ := wl2 (ws' := [(oc2 oH x_1181 x_1183 iH_cutCount iH_halfBreaths iH_halfQuestions rH_heardWords rH_cutParts), (arI rH_heardWords kH_heardWords 512 fH_heardWords)]) hP hD rfl
    exact wq_v hx hb hr 0 trivial (fun t ht hW => ⟨x_1181, x_1183, fH_heardWords, ⟨(om_83b90de5 b_iH_breaths.1 vx_1181), (om_abee7189 hbr vx_1181)⟩, (om_6ad8cf7f vx_1181), hG, Bw.to hP hD hK ht hW⟩) hS dX2_noteWord_42 hlocks
  · skip
    have hG := hG.trans (if_neg c_1180)
    have gc_1180 := ti_nle c_1180 kc_512 rfl
    refine lv_aload_n hx hb dX2_noteWord_10 rfl (lv_at hl 0 rfl) ?_
    refine va_get (D := (dC, dI)) (ci := 2) (v := .ref rH_heardWords) (C := RX2) (T := TX2) (N := 7) hx hb hts inX2 hown hK hP 0 rfl rfl 5 (by decide) (hts _ wd_141) (fun _ h9 => h9) rfl dX2_noteWord_11 ?_
    refine lv_aload_n hx hb dX2_noteWord_14 rfl (lv_at hl 0 rfl) ?_
    refine va_get (D := (dC, dI)) (ci := 2) (v := .int iH_breaths) (C := RX2) (T := TX2) (N := 7) hx hb hts inX2 hown hK hP 0 rfl rfl 0 (by decide) (hts _ wd_719) (fun _ h9 => h9) rfl dX2_noteWord_15 ?_
    refine lv_iload_n hx hb dX2_noteWord_18 rfl (lv_at hl 1 rfl) ?_
    refine va_iast hx hb hK hP hD hS 1 0 rfl rfl (ti_in rfl b_iH_breaths.1 (om_54bc71e0 gc_1180)) dX2_noteWord_19 (fun H locs hP hD hS => ?_)
    obtain ⟨f_1185, ef_1185⟩ : ∃ g : Nat → Int32, g = upd fH_heardWords iH_breaths.toNatClampNeg p0 := ⟨_, rfl⟩
    rw [← ef_1185] at hP hD
    have hG := hG.trans (lt_eq ef_1185)
    obtain ⟨hP, hD⟩ := wl2 (ws' := [(oc2 oH iH_breaths iH_heardBits iH_cutCount iH_halfBreaths iH_halfQuestions rH_heardWords rH_cutParts), (arI rH_heardWords kH_heardWords 512 f_1185)]) hP hD rfl
    refine lv_aload_n hx hb dX2_noteWord_20 rfl (lv_at hl 0 rfl) ?_
    refine lv_dup hx hb dX2_noteWord_21 rfl ?_
    refine va_get (D := (dC, dI)) (ci := 2) (v := .int iH_breaths) (C := RX2) (T := TX2) (N := 7) hx hb hts inX2 hown hK hP 0 rfl rfl 0 (by decide) (hts _ wd_719) (fun _ h9 => h9) rfl dX2_noteWord_22 ?_
    refine lv_iconst (v := 1) hx hb dX2_noteWord_25 (by decide) ?_
    refine lv_iadd hx hb dX2_noteWord_26 ?_
    refine lv_topi (fun x_1186 ex_1186 => ?_)
    have hG := hG.trans (lt_eq ex_1186)
    have vx_1186 : x_1186.toInt = iH_breaths.toInt + 1 := ti_add ex_1186 rfl kc_1 (om_4e4fce7e b_iH_breaths.1) (om_46d04684 b_iH_breaths.2)
    refine va_put (D := (dC, dI)) (ci := 2) (v := .int x_1186) (ty := .int) (C := RX2) (T := TX2) (N := 7) hx hb hts inX2 tyX2 tyX2_ok nmX2 hown hK hP hD hS 0 rfl rfl 0 (by decide) (hts _ wd_719) (fun _ h9 => h9) rfl (by decide +kernel) rfl rfl (Nat.le_of_ble_eq_true rfl) dX2_noteWord_27 (fun H locs hP hD hS => ?_)
    obtain ⟨hP, hD⟩ := wl2 (ws' := [(oc2 oH x_1186 iH_heardBits iH_cutCount iH_halfBreaths iH_halfQuestions rH_heardWords rH_cutParts), (arI rH_heardWords kH_heardWords 512 f_1185)]) hP hD rfl
    refine lv_aload_n hx hb dX2_noteWord_30 rfl (lv_at hl 0 rfl) ?_
    refine lv_dup hx hb dX2_noteWord_31 rfl ?_
    refine va_get (D := (dC, dI)) (ci := 2) (v := .int iH_heardBits) (C := RX2) (T := TX2) (N := 7) hx hb hts inX2 hown hK hP 0 rfl rfl 1 (by decide) (hts _ wd_724) (fun _ h9 => h9) rfl dX2_noteWord_32 ?_
    refine lv_iconst (v := 1) hx hb dX2_noteWord_35 (by decide) ?_
    refine lv_iload_n hx hb dX2_noteWord_36 rfl (lv_at hl 1 rfl) ?_
    refine lv_ishl hx hb dX2_noteWord_37 ?_
    refine lv_topi (fun x_1187 ex_1187 => ?_)
    have hG := hG.trans (lt_eq ex_1187)
    refine lv_ior hx hb dX2_noteWord_38 ?_
    refine lv_topi (fun x_1188 ex_1188 => ?_)
    have hG := hG.trans (lt_eq ex_1188)
    refine va_put (D := (dC, dI)) (ci := 2) (v := .int x_1188) (ty := .int) (C := RX2) (T := TX2) (N := 7) hx hb hts inX2 tyX2 tyX2_ok nmX2 hown hK hP hD hS 0 rfl rfl 1 (by decide) (hts _ wd_724) (fun _ h9 => h9) rfl (by decide +kernel) rfl rfl (Nat.le_of_ble_eq_true rfl) dX2_noteWord_39 (fun H locs hP hD hS => ?_)
    obtain ⟨hP, hD⟩ := wl2 (ws' := [(oc2 oH x_1186 x_1188 iH_cutCount iH_halfBreaths iH_halfQuestions rH_heardWords rH_cutParts), (arI rH_heardWords kH_heardWords 512 f_1185)]) hP hD rfl
    exact wq_v hx hb hr 0 trivial (fun t ht hW => ⟨x_1186, x_1188, f_1185, ⟨(om_83b90de5 b_iH_breaths.1 vx_1186), (om_abee7189 hbr vx_1186)⟩, (om_6ad8cf7f vx_1186), hG, Bw.to hP hD hK ht hW⟩) hS dX2_noteWord_42 hlocks
set_option maxHeartbeats 4000000 in
set_option maxRecDepth 100000 in
theorem tX2_noteCuts (l : Launch) (dC : Nat → ClassId) (dI : Nat → Nat → Nat) (sz : Nat) (oH : Nat) (iH_breaths : Int32) (iH_heardBits : Int32) (iH_cutCount : Int32) (iH_halfBreaths : Int32) (iH_halfQuestions : Int32) (rH_heardWords : Nat) (rH_cutParts : Nat) (fH_cutParts : Nat → Int32) (kH_cutParts : ClassId) (oC : Nat) (iC_nodes : Int32) (iC_words : Int32) (iC_chances : Int32) (iC_unsures : Int32) (iC_slips : Int32) (iC_throneNode : Int32) (iC_saidWorth : Int32) (iC_unit : Int32) (rC_kind : Nat) (rC_parts : Nat) (fC_parts : Nat → Int32) (kC_parts : ClassId) (rC_partNodes : Nat) (fC_partNodes : Nat → Int32) (kC_partNodes : ClassId) (rC_weights : Nat) (rC_weightSums : Nat) (rC_toldWorths : Nat) (rC_steps : Nat) (rC_below : Nat) (rC_above : Nat) (rC_unsureWords : Nat) (rC_unsureWorths : Nat) (oS : Nat) (rS_worths : Nat) (rS_order : Nat) (fS_order : Nat → Int32) (kS_order : ClassId) (rS_left : Nat) (p0 : Int32) (p1 : Int32) (b_iH_breaths : 0 ≤ iH_breaths.toInt ∧ iH_breaths.toInt ≤ 1000000000) (b_iH_cutCount : 0 ≤ iH_cutCount.toInt ∧ iH_cutCount.toInt ≤ 1000000000) (b_iC_nodes : 0 ≤ iC_nodes.toInt ∧ iC_nodes.toInt ≤ 18) (b_iC_unsures : 0 ≤ iC_unsures.toInt ∧ iC_unsures.toInt ≤ 4) (b_iC_throneNode : (-1) ≤ iC_throneNode.toInt ∧ iC_throneNode.toInt ≤ 17) (a_fC_parts : ∀ j : Nat, j < 18 → 0 ≤ (fC_parts j).toInt ∧ (fC_parts j).toInt ≤ 4) (a_fC_partNodes : ∀ j : Nat, j < 72 → 0 ≤ (fC_partNodes j).toInt ∧ (fC_partNodes j).toInt ≤ 17) (a_fS_order : ∀ j : Nat, j < 72 → 0 ≤ (fS_order j).toInt ∧ (fS_order j).toInt ≤ 3) (hp0 : 0 ≤ p0.toInt ∧ p0.toInt ≤ 17) (hp1 : 0 ≤ p1.toInt ∧ p1.toInt ≤ 4) (hcu : iH_cutCount.toInt + 4 ≤ 1000000000) : Met l yX2_noteCuts (Cond.code yX2_noteCuts cX2_noteCuts 6 none :: wG) ({ frames := 1, cells := 0, slots := 0, locals := 23 }) (va_Pc [.ref oH, .ref oC, .ref oS, .int p0, .int p1] (Pw dC dI sz [(oc2 oH iH_breaths iH_heardBits iH_cutCount iH_halfBreaths iH_halfQuestions rH_heardWords rH_cutParts), (arI rH_cutParts kH_cutParts 512 fH_cutParts), (oc1 oC iC_nodes iC_words iC_chances iC_unsures iC_slips iC_throneNode iC_saidWorth iC_unit rC_kind rC_parts rC_partNodes rC_weights rC_weightSums rC_toldWorths rC_steps rC_below rC_above rC_unsureWords rC_unsureWorths), (arI rC_parts kC_parts 18 fC_parts), (arI rC_partNodes kC_partNodes 72 fC_partNodes), (oc5 oS rS_worths rS_order rS_left), (arI rS_order kS_order 72 fS_order)] [(kH_cutParts, .int), (kC_parts, .int), (kC_partNodes, .int), (kS_order, .int)])) (va_Qv (fun (_ : Nat) => True) (fun (_ : Nat) (t : State) => ∃ (niH_cutCount : Int32) (nfH_cutParts : Nat → Int32), (0 ≤ niH_cutCount.toInt ∧ niH_cutCount.toInt ≤ 1000000000) ∧ (niH_cutCount.toInt ≤ iH_cutCount.toInt + 4) ∧ (PX2_noteCuts iH_cutCount fH_cutParts fC_parts fC_partNodes fS_order p0 p1 = (niH_cutCount, nfH_cutParts)) ∧ Bw dC dI (va_A [(oc2 oH iH_breaths iH_heardBits iH_cutCount iH_halfBreaths iH_halfQuestions rH_heardWords rH_cutParts), (arI rH_cutParts kH_cutParts 512 fH_cutParts), (oc1 oC iC_nodes iC_words iC_chances iC_unsures iC_slips iC_throneNode iC_saidWorth iC_unit rC_kind rC_parts rC_partNodes rC_weights rC_weightSums rC_toldWorths rC_steps rC_below rC_above rC_unsureWords rC_unsureWorths), (arI rC_parts kC_parts 18 fC_parts), (arI rC_partNodes kC_partNodes 72 fC_partNodes), (oc5 oS rS_worths rS_order rS_left), (arI rS_order kS_order 72 fS_order)] sz) [(oc2 oH iH_breaths iH_heardBits niH_cutCount iH_halfBreaths iH_halfQuestions rH_heardWords rH_cutParts), (arI rH_cutParts kH_cutParts 512 nfH_cutParts), (oc1 oC iC_nodes iC_words iC_chances iC_unsures iC_slips iC_throneNode iC_saidWorth iC_unit rC_kind rC_parts rC_partNodes rC_weights rC_weightSums rC_toldWorths rC_steps rC_below rC_above rC_unsureWords rC_unsureWorths), (arI rC_parts kC_parts 18 fC_parts), (arI rC_partNodes kC_partNodes 72 fC_partNodes), (oc5 oS rS_worths rS_order rS_left), (arI rS_order kS_order 72 fS_order)] [(kH_cutParts, .int), (kC_parts, .int), (kC_partNodes, .int), (kS_order, .int)] t) (va_A [(oc2 oH iH_breaths iH_heardBits iH_cutCount iH_halfBreaths iH_halfQuestions rH_heardWords rH_cutParts), (arI rH_cutParts kH_cutParts 512 fH_cutParts), (oc1 oC iC_nodes iC_words iC_chances iC_unsures iC_slips iC_throneNode iC_saidWorth iC_unit rC_kind rC_parts rC_partNodes rC_weights rC_weightSums rC_toldWorths rC_steps rC_below rC_above rC_unsureWords rC_unsureWorths), (arI rC_parts kC_parts 18 fC_parts), (arI rC_partNodes kC_partNodes 72 fC_partNodes), (oc5 oS rS_worths rS_order rS_left), (arI rS_order kS_order 72 fS_order)] sz)) 0 0 (va_A [(oc2 oH iH_breaths iH_heardBits iH_cutCount iH_halfBreaths iH_halfQuestions rH_heardWords rH_cutParts), (arI rH_cutParts kH_cutParts 512 fH_cutParts), (oc1 oC iC_nodes iC_words iC_chances iC_unsures iC_slips iC_throneNode iC_saidWorth iC_unit rC_kind rC_parts rC_partNodes rC_weights rC_weightSums rC_toldWorths rC_steps rC_below rC_above rC_unsureWords rC_unsureWorths), (arI rC_parts kC_parts 18 fC_parts), (arI rC_partNodes kC_partNodes 72 fC_partNodes), (oc5 oS rS_worths rS_order rS_left), (arI rS_order kS_order 72 fS_order)] sz) := by
  refine Met.ofW (cc := cX2_noteCuts) (maxL := 6) (ret := none) pnX2 rfl ?_
  intro p e s m args below meth c s₁ B hml hv
  obtain ⟨rfl, hsz, hP, hK, hD0, hE⟩ := hv
  have hx := B.exec
  have hb := B.bytes
  have hr := B.returns
  have hts : ∀ w ∈ wG, w.before ([.ref oH, .ref oC, .ref oS, .int p0, .int p1] : List Value).toArray s = true := fun w h => atoms_spec (ws := Cond.code yX2_noteCuts cX2_noteCuts 6 none :: wG) B.pre w (List.mem_cons_of_mem _ h)
  have hown : s.vm.findClass RX2 = some m.cls := own_of B.named rfl
  have hlocks := B.notSynchronized
  subst hsz
  have hD := hD0.self (sz := s.heap.size)
  generalize hAe : va_A [(oc2 oH iH_breaths iH_heardBits iH_cutCount iH_halfBreaths iH_halfQuestions rH_heardWords rH_cutParts), (arI rH_cutParts kH_cutParts 512 fH_cutParts), (oc1 oC iC_nodes iC_words iC_chances iC_unsures iC_slips iC_throneNode iC_saidWorth iC_unit rC_kind rC_parts rC_partNodes rC_weights rC_weightSums rC_toldWorths rC_steps rC_below rC_above rC_unsureWords rC_unsureWorths), (arI rC_parts kC_parts 18 fC_parts), (arI rC_partNodes kC_partNodes 72 fC_partNodes), (oc5 oS rS_worths rS_order rS_left), (arI rS_order kS_order 72 fS_order)] s.heap.size = A at hD hE ⊢
  have hA : ∀ q : Nat, s.heap.size ≤ q → A q := fun q h => by rw [← hAe]; exact Or.inr h
  have hS : va_S A s.heap s.heap [] := va_S.rf
  have hl := lv_entry ([.ref oH, .ref oC, .ref oS, .int p0, .int p1]) (n := 6) (Nat.le_of_ble_eq_true rfl)
  rw [lg_entry_eq]
  generalize (lg_sl ([.ref oH, .ref oC, .ref oS, .int p0, .int p1]) ++ List.replicate (6 - (lg_sl ([.ref oH, .ref oC, .ref oS, .int p0, .int p1])).length) Slot.unset).toArray = ls at hl ⊢
  have hl : lv_has ls 6 [(0, .ref oH), (1, .ref oC), (2, .ref oS), (3, .int p0), (4, .int p1)] := hl
  have hG := PX2_noteCuts_eq iH_cutCount fH_cutParts fC_parts fC_partNodes fS_order p0 p1
  refine lv_iload hx hb dX2_noteCuts_0 (lv_at hl 4 rfl) ?_
  refine lv_istore (lv' := [(5, .int p1), (0, .ref oH), (1, .ref oC), (2, .ref oS), (3, .int p0), (4, .int p1)]) hx hb dX2_noteCuts_2 hl (by decide) rfl (fun ls hl => ?_)
  have hl := lv_sub hl (l' := [(5, .int p1), (0, .ref oH), (1, .ref oC), (2, .ref oS), (3, .int p0), (4, .int p1)]) [0, 1, 2, 3, 4, 5] rfl
  have key_n_1224 : ∀ (n_1224 : Nat) (z_1221 : Int32) (z_1222 : Int32) (f_1223 : Nat → Int32) (H : Heap) (locs : List Loc) (ls : Array Slot), (0 ≤ z_1222.toInt ∧ z_1222.toInt ≤ 1000000000) → (0 ≤ z_1221.toInt ∧ z_1221.toInt ≤ 4) → (z_1222.toInt ≤ iH_cutCount.toInt + z_1221.toInt) → (4 - z_1221.toInt).toNat < n_1224 → (PX2_noteCuts iH_cutCount fH_cutParts fC_parts fC_partNodes fS_order p0 p1 = HX2_noteCuts_0 fC_parts fC_partNodes fS_order p0 n_1224 z_1221 z_1222 f_1223) → va_P (dC, dI) vwCl [(oc2 oH iH_breaths iH_heardBits z_1222 iH_halfBreaths iH_halfQuestions rH_heardWords rH_cutParts), (arI rH_cutParts kH_cutParts 512 f_1223), (oc1 oC iC_nodes iC_words iC_chances iC_unsures iC_slips iC_throneNode iC_saidWorth iC_unit rC_kind rC_parts rC_partNodes rC_weights rC_weightSums rC_toldWorths rC_steps rC_below rC_above rC_unsureWords rC_unsureWorths), (arI rC_parts kC_parts 18 fC_parts), (arI rC_partNodes kC_partNodes 72 fC_partNodes), (oc5 oS rS_worths rS_order rS_left), (arI rS_order kS_order 72 fS_order)] H → va_D A [(oc2 oH iH_breaths iH_heardBits z_1222 iH_halfBreaths iH_halfQuestions rH_heardWords rH_cutParts), (arI rH_cutParts kH_cutParts 512 f_1223), (oc1 oC iC_nodes iC_words iC_chances iC_unsures iC_slips iC_throneNode iC_saidWorth iC_unit rC_kind rC_parts rC_partNodes rC_weights rC_weightSums rC_toldWorths rC_steps rC_below rC_above rC_unsureWords rC_unsureWorths), (arI rC_parts kC_parts 18 fC_parts), (arI rC_partNodes kC_partNodes 72 fC_partNodes), (oc5 oS rS_worths rS_order rS_left), (arI rS_order kS_order 72 fS_order)] → va_S A s.heap H locs → lv_has ls 6 [(5, .int z_1221), (0, .ref oH), (1, .ref oC), (2, .ref oS), (3, .int p0), (4, .int p1)] → W p l e (headSpec (Cond.code yX2_noteCuts cX2_noteCuts 6 none :: wG) ({ frames := 1, cells := 0, slots := 0, locals := 23 })).room s m ([.ref oH, .ref oC, .ref oS, .int p0, .int p1] : List Value).toArray below meth c H locs 0 0 (MQ below (va_Qv (fun (_ : Nat) => True) (fun (_ : Nat) (t : State) => ∃ (niH_cutCount : Int32) (nfH_cutParts : Nat → Int32), (0 ≤ niH_cutCount.toInt ∧ niH_cutCount.toInt ≤ 1000000000) ∧ (niH_cutCount.toInt ≤ iH_cutCount.toInt + 4) ∧ (PX2_noteCuts iH_cutCount fH_cutParts fC_parts fC_partNodes fS_order p0 p1 = (niH_cutCount, nfH_cutParts)) ∧ Bw dC dI A [(oc2 oH iH_breaths iH_heardBits niH_cutCount iH_halfBreaths iH_halfQuestions rH_heardWords rH_cutParts), (arI rH_cutParts kH_cutParts 512 nfH_cutParts), (oc1 oC iC_nodes iC_words iC_chances iC_unsures iC_slips iC_throneNode iC_saidWorth iC_unit rC_kind rC_parts rC_partNodes rC_weights rC_weightSums rC_toldWorths rC_steps rC_below rC_above rC_unsureWords rC_unsureWorths), (arI rC_parts kC_parts 18 fC_parts), (arI rC_partNodes kC_partNodes 72 fC_partNodes), (oc5 oS rS_worths rS_order rS_left), (arI rS_order kS_order 72 fS_order)] [(kH_cutParts, .int), (kC_parts, .int), (kC_partNodes, .int), (kS_order, .int)] t) A) ([.ref oH, .ref oC, .ref oS, .int p0, .int p1] : List Value).toArray s 0 0 A) (F0 m 4 ls []) := by
    intro n_1224
    induction n_1224 with
    | zero => intro z_1221 z_1222 f_1223 H locs ls b_z_1222 hi0_n_1224 hi1_n_1224 hm; exact absurd hm (Nat.not_lt_zero _)
    | succ n_1224 ih_n_1224 =>
      intro z_1221 z_1222 f_1223 H locs ls b_z_1222 hi0_n_1224 hi1_n_1224 hm_n_1224 hG hP hD hS hl
      have hG := hG.trans (HX2_noteCuts_0_eq _ _ _ _ _ _ _ _)
      refine lv_iload hx hb dX2_noteCuts_4 (lv_at hl 0 rfl) ?_
      refine lv_aload_n hx hb dX2_noteCuts_6 rfl (lv_at hl 2 rfl) ?_
      refine va_get (D := (dC, dI)) (ci := 1) (v := .ref rC_parts) (C := RX1) (T := TX1) (N := 19) hx hb hts inX1 hown hK hP 2 rfl rfl 9 (by decide) (hts _ wd_748) (fun _ h9 => h9) rfl dX2_noteCuts_7 ?_
      refine lv_iload_n hx hb dX2_noteCuts_10 rfl (lv_at hl 4 rfl) ?_
      refine va_iald hx hb hK hP 3 1 rfl rfl (ti_in rfl hp0.1 (om_b3735a34 hp0.2)) dX2_noteCuts_11 ?_
      refine lv_topi (fun x_1225 ex_1225 => ?_)
      have hG := hG.trans (lt_eq ex_1225)
      have kx_1225 : (fC_parts p0.toNatClampNeg).toInt = x_1225.toInt := by rw [ex_1225]
      have ux_1225 := a_fC_parts p0.toNatClampNeg (cl_lt rfl hp0.1 (om_b3735a34 hp0.2))
      rw [show fC_parts p0.toNatClampNeg = x_1225 from ex_1225.symm] at ux_1225
      refine lv_icmp_ge (tgt := 58) hx hb dX2_noteCuts_12 (by decide) (fun c_1226 => ?_) (fun c_1226 => ?_)
      · skip
        have hG := hG.trans (if_pos c_1226)
        have gc_1226 := ti_le c_1226 rfl rfl
        exact wq_v hx hb hr 0 trivial (fun t ht hW => ⟨z_1222, f_1223, b_z_1222, (om_f05dbf42 hi0_n_1224.2 hi1_n_1224), hG, Bw.to hP hD hK ht hW⟩) hS dX2_noteCuts_58 hlocks
      · skip
        have hG := hG.trans (if_neg c_1226)
        have gc_1226 := ti_nle c_1226 rfl rfl
        refine lv_aload_n hx hb dX2_noteCuts_15 rfl (lv_at hl 1 rfl) ?_
        refine va_get (D := (dC, dI)) (ci := 2) (v := .int z_1222) (C := RX2) (T := TX2) (N := 7) hx hb hts inX2 hown hK hP 0 rfl rfl 2 (by decide) (hts _ wd_725) (fun _ h9 => h9) rfl dX2_noteCuts_16 ?_
        refine lv_sipush (v := 512) hx hb dX2_noteCuts_19 (by decide) ?_
        refine lv_icmp_ge (tgt := 42) hx hb dX2_noteCuts_22 (by decide) (fun c_1227 => ?_) (fun c_1227 => ?_)
        · skip
          have hG := hG.trans (if_pos c_1227)
          have gc_1227 := ti_le c_1227 kc_512 rfl
          refine lv_aload_n hx hb dX2_noteCuts_42 rfl (lv_at hl 1 rfl) ?_
          refine lv_dup hx hb dX2_noteCuts_43 rfl ?_
          refine va_get (D := (dC, dI)) (ci := 2) (v := .int z_1222) (C := RX2) (T := TX2) (N := 7) hx hb hts inX2 hown hK hP 0 rfl rfl 2 (by decide) (hts _ wd_725) (fun _ h9 => h9) rfl dX2_noteCuts_44 ?_
          refine lv_iconst (v := 1) hx hb dX2_noteCuts_47 (by decide) ?_
          refine lv_iadd hx hb dX2_noteCuts_48 ?_
          refine lv_topi (fun x_1228 ex_1228 => ?_)
          have hG := hG.trans (lt_eq ex_1228)
          have vx_1228 : x_1228.toInt = z_1222.toInt + 1 := ti_add ex_1228 rfl kc_1 (om_4e4fce7e b_z_1222.1) (om_46d04684 b_z_1222.2)
          refine va_put (D := (dC, dI)) (ci := 2) (v := .int x_1228) (ty := .int) (C := RX2) (T := TX2) (N := 7) hx hb hts inX2 tyX2 tyX2_ok nmX2 hown hK hP hD hS 0 rfl rfl 2 (by decide) (hts _ wd_725) (fun _ h9 => h9) rfl (by decide +kernel) rfl rfl (Nat.le_of_ble_eq_true rfl) dX2_noteCuts_49 (fun H locs hP hD hS => ?_)
          obtain ⟨hP, hD⟩ := wl2 (ws' := [(oc2 oH iH_breaths iH_heardBits x_1228 iH_halfBreaths iH_halfQuestions rH_heardWords rH_cutParts), (arI rH_cutParts kH_cutParts 512 f_1223), (oc1 oC iC_nodes iC_words iC_chances iC_unsures iC_slips iC_throneNode iC_saidWorth iC_unit rC_kind rC_parts rC_partNodes rC_weights rC_weightSums rC_toldWorths rC_steps rC_below rC_above rC_unsureWords rC_unsureWorths), (arI rC_parts kC_parts 18 fC_parts), (arI rC_partNodes kC_partNodes 72 fC_partNodes), (oc5 oS rS_worths rS_order rS_left), (arI rS_order kS_order 72 fS_order)]) hP hD rfl
          obtain ⟨x_1229, ex_1229⟩ : ∃ z : Int32, z = z_1221 + Int32.ofInt 1 := ⟨_, rfl⟩
          have hG := hG.trans (lt_eq ex_1229)
          have vx_1229 : x_1229.toInt = z_1221.toInt + 1 := ti_add (y := 1) ex_1229 rfl kc_1 (om_4e4fce7e hi0_n_1224.1) (om_bae2951a hi0_n_1224.2)
          refine lv_iinc (v := x_1229) (lv' := [(5, .int x_1229), (0, .ref oH), (1, .ref oC), (2, .ref oS), (3, .int p0), (4, .int p1)]) hx hb dX2_noteCuts_52 hl (k := 0) rfl ex_1229.symm (by decide) rfl (fun ls hl => ?_)
          refine lv_goto (tgt := 4) hx hb dX2_noteCuts_55 (by decide) ?_
          exact ih_n_1224 x_1229 x_1228 f_1223 _ _ _ ⟨(om_83b90de5 b_z_1222.1 vx_1228), (om_a1652d4b hcu hi1_n_1224 ux_1225.2 gc_1226 vx_1228)⟩ ⟨(om_83b90de5 hi0_n_1224.1 vx_1229), (om_d2c1ef0c ux_1225.2 gc_1226 vx_1229)⟩ (om_be264279 hi1_n_1224 vx_1228 vx_1229) (ms_lt hm_n_1224 (om_ed22490e vx_1229) (om_fbb6b5f5 ux_1225.2 gc_1226)) hG hP hD hS (lv_sub hl [0, 1, 2, 3, 4, 5] rfl)
        · skip
          have hG := hG.trans (if_neg c_1227)
          have gc_1227 := ti_nle c_1227 kc_512 rfl
          refine lv_aload_n hx hb dX2_noteCuts_25 rfl (lv_at hl 1 rfl) ?_
          refine va_get (D := (dC, dI)) (ci := 2) (v := .ref rH_cutParts) (C := RX2) (T := TX2) (N := 7) hx hb hts inX2 hown hK hP 0 rfl rfl 6 (by decide) (hts _ wd_142) (fun _ h9 => h9) rfl dX2_noteCuts_26 ?_
          refine lv_aload_n hx hb dX2_noteCuts_29 rfl (lv_at hl 1 rfl) ?_
          refine va_get (D := (dC, dI)) (ci := 2) (v := .int z_1222) (C := RX2) (T := TX2) (N := 7) hx hb hts inX2 hown hK hP 0 rfl rfl 2 (by decide) (hts _ wd_725) (fun _ h9 => h9) rfl dX2_noteCuts_30 ?_
          refine lv_aload_n hx hb dX2_noteCuts_33 rfl (lv_at hl 3 rfl) ?_
          refine lv_aload_n hx hb dX2_noteCuts_34 rfl (lv_at hl 2 rfl) ?_
          refine lv_iload_n hx hb dX2_noteCuts_35 rfl (lv_at hl 4 rfl) ?_
          refine lv_iload hx hb dX2_noteCuts_36 (lv_at hl 0 rfl) ?_
          have hFc := va_free (wc := [(oc5 oS rS_worths rS_order rS_left), (arI rS_order kS_order 72 fS_order), (oc1 oC iC_nodes iC_words iC_chances iC_unsures iC_slips iC_throneNode iC_saidWorth iC_unit rC_kind rC_parts rC_partNodes rC_weights rC_weightSums rC_toldWorths rC_steps rC_below rC_above rC_unsureWords rC_unsureWorths), (arI rC_partNodes kC_partNodes 72 fC_partNodes)]) hD hS hA [5, 6, 2, 4] rfl
          refine va_calli (va_runV (As := [.ref oC, .int p0, .int z_1221]) (rest := [.int z_1222, .ref rH_cutParts]) ⟨hx, hb, hml, hown, hts⟩ (tX5_partAt l dC dI _ oS rS_worths rS_order fS_order kS_order rS_left oC iC_nodes iC_words iC_chances iC_unsures iC_slips iC_throneNode iC_saidWorth iC_unit rC_kind rC_parts rC_partNodes fC_partNodes kC_partNodes rC_weights rC_weightSums rC_toldWorths rC_steps rC_below rC_above rC_unsureWords rC_unsureWorths p0 z_1221 a_fS_order b_iC_nodes b_iC_unsures b_iC_throneNode a_fC_partNodes ⟨hp0.1, hp0.2⟩ ⟨hi0_n_1224.1, (om_c9276b6d ux_1225.2 gc_1226)⟩) (cwV 3 hts (wd_V wd_750 wd_569 wd_570 wd_23 (wd_c wd_571)) rfl rfl rfl dv_yX5_partAt_3 ⟨Nat.le_of_ble_eq_true rfl, Nat.le_of_ble_eq_true rfl⟩) ⟨Pw.fb, recvX5 hK hP (q0 := 5) rfl, fun U hU hW => Pw.to (hP.sub [5, 6, 2, 4] rfl) (hD.sub [5, 6, 2, 4] (by decide) rfl) (hK.sub [3, 2] rfl) hE hS hFc hU hW⟩ rfl rfl hl.1 rfl (lv_room (Nat.le_of_ble_eq_true rfl)) dX2_noteCuts_38 ⟨Nat.le_of_ble_eq_true rfl, Nat.le_of_ble_eq_true rfl⟩) hS (fun q _ h => hFc q h) hFc (fun r u t H locs ht hvm hw hB hz1 hk1 hS => ?_)
          have hru9 := hw.2
          have hw := hw.1
          obtain ⟨hP, hD, hK⟩ := Bw.go (ws' := [(oc2 oH iH_breaths iH_heardBits z_1222 iH_halfBreaths iH_halfQuestions rH_heardWords rH_cutParts), (arI rH_cutParts kH_cutParts 512 f_1223), (arI rC_parts kC_parts 18 fC_parts), (oc5 oS rS_worths rS_order rS_left), (arI rS_order kS_order 72 fS_order), (oc1 oC iC_nodes iC_words iC_chances iC_unsures iC_slips iC_throneNode iC_saidWorth iC_unit rC_kind rC_parts rC_partNodes rC_weights rC_weightSums rC_toldWorths rC_steps rC_below rC_above rC_unsureWords rC_unsureWorths), (arI rC_partNodes kC_partNodes 72 fC_partNodes)]) (tys' := [(kH_cutParts, .int), (kC_parts, .int), (kS_order, .int), (kC_partNodes, .int)]) hB rfl ht hvm hP hD hK [5, 6, 2, 4] [0, 1, 3] rfl (by decide) (by decide) [0, 1] hk1 hFc rfl rfl rfl
          clear hz1 hk1 hvm ht hB
          obtain ⟨x_1230, rfl⟩ : ∃ z, z = r := ⟨_, rfl⟩
          have hG := hG.trans (lt_eq hru9.symm)
          have ux_1230 := hw.2
          refine va_iast hx hb hK hP hD hS 1 0 rfl rfl (ti_in rfl b_z_1222.1 (om_54bc71e0 gc_1227)) dX2_noteCuts_41 (fun H locs hP hD hS => ?_)
          obtain ⟨f_1232, ef_1232⟩ : ∃ g : Nat → Int32, g = upd f_1223 z_1222.toNatClampNeg x_1230 := ⟨_, rfl⟩
          rw [← ef_1232] at hP hD
          have hG := hG.trans (lt_eq ef_1232)
          obtain ⟨hP, hD⟩ := wl2 (ws' := [(oc2 oH iH_breaths iH_heardBits z_1222 iH_halfBreaths iH_halfQuestions rH_heardWords rH_cutParts), (arI rH_cutParts kH_cutParts 512 f_1232), (arI rC_parts kC_parts 18 fC_parts), (oc5 oS rS_worths rS_order rS_left), (arI rS_order kS_order 72 fS_order), (oc1 oC iC_nodes iC_words iC_chances iC_unsures iC_slips iC_throneNode iC_saidWorth iC_unit rC_kind rC_parts rC_partNodes rC_weights rC_weightSums rC_toldWorths rC_steps rC_below rC_above rC_unsureWords rC_unsureWorths), (arI rC_partNodes kC_partNodes 72 fC_partNodes)]) hP hD rfl
          refine lv_aload_n hx hb dX2_noteCuts_42 rfl (lv_at hl 1 rfl) ?_
          refine lv_dup hx hb dX2_noteCuts_43 rfl ?_
          refine va_get (D := (dC, dI)) (ci := 2) (v := .int z_1222) (C := RX2) (T := TX2) (N := 7) hx hb hts inX2 hown hK hP 0 rfl rfl 2 (by decide) (hts _ wd_725) (fun _ h9 => h9) rfl dX2_noteCuts_44 ?_
          refine lv_iconst (v := 1) hx hb dX2_noteCuts_47 (by decide) ?_
          refine lv_iadd hx hb dX2_noteCuts_48 ?_
          refine lv_topi (fun x_1233 ex_1233 => ?_)
          have hG := hG.trans (lt_eq ex_1233)
          have vx_1233 : x_1233.toInt = z_1222.toInt + 1 := ti_add ex_1233 rfl kc_1 (om_4e4fce7e b_z_1222.1) (om_46d04684 b_z_1222.2)
          refine va_put (D := (dC, dI)) (ci := 2) (v := .int x_1233) (ty := .int) (C := RX2) (T := TX2) (N := 7) hx hb hts inX2 tyX2 tyX2_ok nmX2 hown hK hP hD hS 0 rfl rfl 2 (by decide) (hts _ wd_725) (fun _ h9 => h9) rfl (by decide +kernel) rfl rfl (Nat.le_of_ble_eq_true rfl) dX2_noteCuts_49 (fun H locs hP hD hS => ?_)
          obtain ⟨hP, hD⟩ := wl2 (ws' := [(oc2 oH iH_breaths iH_heardBits x_1233 iH_halfBreaths iH_halfQuestions rH_heardWords rH_cutParts), (arI rH_cutParts kH_cutParts 512 f_1232), (arI rC_parts kC_parts 18 fC_parts), (oc5 oS rS_worths rS_order rS_left), (arI rS_order kS_order 72 fS_order), (oc1 oC iC_nodes iC_words iC_chances iC_unsures iC_slips iC_throneNode iC_saidWorth iC_unit rC_kind rC_parts rC_partNodes rC_weights rC_weightSums rC_toldWorths rC_steps rC_below rC_above rC_unsureWords rC_unsureWorths), (arI rC_partNodes kC_partNodes 72 fC_partNodes)]) hP hD rfl
          obtain ⟨x_1234, ex_1234⟩ : ∃ z : Int32, z = z_1221 + Int32.ofInt 1 := ⟨_, rfl⟩
          have hG := hG.trans (lt_eq ex_1234)
          have vx_1234 : x_1234.toInt = z_1221.toInt + 1 := ti_add (y := 1) ex_1234 rfl kc_1 (om_4e4fce7e hi0_n_1224.1) (om_bae2951a hi0_n_1224.2)
          refine lv_iinc (v := x_1234) (lv' := [(5, .int x_1234), (0, .ref oH), (1, .ref oC), (2, .ref oS), (3, .int p0), (4, .int p1)]) hx hb dX2_noteCuts_52 hl (k := 0) rfl ex_1234.symm (by decide) rfl (fun ls hl => ?_)
          refine lv_goto (tgt := 4) hx hb dX2_noteCuts_55 (by decide) ?_
          exact ih_n_1224 x_1234 x_1233 f_1232 _ _ _ ⟨(om_83b90de5 b_z_1222.1 vx_1233), (om_7b33dc28 gc_1227 vx_1233)⟩ ⟨(om_83b90de5 hi0_n_1224.1 vx_1234), (om_d2c1ef0c ux_1225.2 gc_1226 vx_1234)⟩ (om_be264279 hi1_n_1224 vx_1233 vx_1234) (ms_lt hm_n_1224 (om_ed22490e vx_1234) (om_fbb6b5f5 ux_1225.2 gc_1226)) hG (hP.sub [0, 1, 5, 2, 6, 3, 4] rfl) (hD.sub [0, 1, 5, 2, 6, 3, 4] (by decide) rfl) hS (lv_sub hl [0, 1, 2, 3, 4, 5] rfl)
  exact key_n_1224 (((4 - p1.toInt).toNat) + 1) p1 iH_cutCount fH_cutParts _ _ _ b_iH_cutCount ⟨hp1.1, hp1.2⟩ (om_9d89ddfe hp1.1) (Nat.lt_add_one _) hG hP hD hS hl
