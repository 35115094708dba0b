set_option maxHeartbeats 4000000 in
set_option maxRecDepth 100000 in
theorem tX1_clear (l : Launch) (dC : Nat → ClassId) (dI : Nat → Nat → Nat) (sz : Nat) (oC : Nat) (iC_nodes : Int32) (iC_words : Int32) (iC_chances : Int32) (iC_unsures : Int32) (iC_slips : Int32) (iC_throneNode : Int32) (iC_saidWorth : Int32) (iC_unit : Int32) (rC_kind : Nat) (rC_parts : Nat) (rC_partNodes : Nat) (rC_weights : Nat) (rC_weightSums : Nat) (rC_toldWorths : Nat) (rC_steps : Nat) (rC_below : Nat) (rC_above : Nat) (rC_unsureWords : Nat) (rC_unsureWorths : Nat) (b_iC_nodes : 0 ≤ iC_nodes.toInt ∧ iC_nodes.toInt ≤ 18) (b_iC_unsures : 0 ≤ iC_unsures.toInt ∧ iC_unsures.toInt ≤ 4) (b_iC_throneNode : (-1) ≤ iC_throneNode.toInt ∧ iC_throneNode.toInt ≤ 17)  : Met l yX1_clear (Cond.code yX1_clear cX1_clear 1 none :: wG) ({ frames := 0, cells := 0, slots := 0, locals := 0 }) (va_Pc [.ref oC] (Pw dC dI sz [(oc1 oC iC_nodes iC_words iC_chances iC_unsures iC_slips iC_throneNode iC_saidWorth iC_unit rC_kind rC_parts rC_partNodes rC_weights rC_weightSums rC_toldWorths rC_steps rC_below rC_above rC_unsureWords rC_unsureWorths)] [])) (va_Qv (fun (_ : Nat) => True) (fun (_ : Nat) (t : State) => ∃ (niC_nodes : Int32) (niC_words : Int32) (niC_chances : Int32) (niC_unsures : Int32) (niC_slips : Int32) (niC_throneNode : Int32) (niC_saidWorth : Int32) (niC_unit : Int32), (0 ≤ niC_nodes.toInt ∧ niC_nodes.toInt ≤ 0) ∧ (0 ≤ niC_words.toInt ∧ niC_words.toInt ≤ 0) ∧ (0 ≤ niC_chances.toInt ∧ niC_chances.toInt ≤ 0) ∧ (0 ≤ niC_unsures.toInt ∧ niC_unsures.toInt ≤ 0) ∧ (0 ≤ niC_slips.toInt ∧ niC_slips.toInt ≤ 0) ∧ ((-1) ≤ niC_throneNode.toInt ∧ niC_throneNode.toInt ≤ (-1)) ∧ ((-1) ≤ niC_saidWorth.toInt ∧ niC_saidWorth.toInt ≤ (-1)) ∧ (1 ≤ niC_unit.toInt ∧ niC_unit.toInt ≤ 1) ∧ (PX1_clear = (niC_nodes, niC_words, niC_chances, niC_unsures, niC_slips, niC_throneNode, niC_saidWorth, niC_unit)) ∧ Bw dC dI (va_A [(oc1 oC iC_nodes iC_words iC_chances iC_unsures iC_slips iC_throneNode iC_saidWorth iC_unit rC_kind rC_parts rC_partNodes rC_weights rC_weightSums rC_toldWorths rC_steps rC_below rC_above rC_unsureWords rC_unsureWorths)] sz) [(oc1 oC niC_nodes niC_words niC_chances niC_unsures niC_slips niC_throneNode niC_saidWorth niC_unit rC_kind rC_parts rC_partNodes rC_weights rC_weightSums rC_toldWorths rC_steps rC_below rC_above rC_unsureWords rC_unsureWorths)] [] t) (va_A [(oc1 oC iC_nodes iC_words iC_chances iC_unsures iC_slips iC_throneNode iC_saidWorth iC_unit rC_kind rC_parts rC_partNodes rC_weights rC_weightSums rC_toldWorths rC_steps rC_below rC_above rC_unsureWords rC_unsureWorths)] sz)) 0 0 (va_A [(oc1 oC iC_nodes iC_words iC_chances iC_unsures iC_slips iC_throneNode iC_saidWorth iC_unit rC_kind rC_parts rC_partNodes rC_weights rC_weightSums rC_toldWorths rC_steps rC_below rC_above rC_unsureWords rC_unsureWorths)] sz) := by
  refine Met.ofW (cc := cX1_clear) (maxL := 1) (ret := none) pnX1 rfl ?_
  intro p e s m args below meth c s₁ B hml hv
  obtain ⟨rfl, hsz, hP, hK, hD0, hE⟩ := hv
  have hx := B.exec
  have hb := B.bytes
  have hr := B.returns
  have hts : ∀ w ∈ wG, w.before ([.ref oC] : List Value).toArray s = true := fun w h => atoms_spec (ws := Cond.code yX1_clear cX1_clear 1 none :: wG) B.pre w (List.mem_cons_of_mem _ h)
  have hown : s.vm.findClass RX1 = some m.cls := own_of B.named rfl
  have hlocks := B.notSynchronized
  subst hsz
  have hD := hD0.self (sz := s.heap.size)
  generalize hAe : va_A [(oc1 oC iC_nodes iC_words iC_chances iC_unsures iC_slips iC_throneNode iC_saidWorth iC_unit rC_kind rC_parts rC_partNodes rC_weights rC_weightSums rC_toldWorths rC_steps rC_below rC_above rC_unsureWords rC_unsureWorths)] s.heap.size = A at hD hE ⊢
  have hA : ∀ q : Nat, s.heap.size ≤ q → A q := fun q h => by rw [← hAe]; exact Or.inr h
  have hS : va_S A s.heap s.heap [] := va_S.rf
  have hl := lv_entry ([.ref oC]) (n := 1) (Nat.le_of_ble_eq_true rfl)
  rw [lg_entry_eq]
  generalize (lg_sl ([.ref oC]) ++ List.replicate (1 - (lg_sl ([.ref oC])).length) Slot.unset).toArray = ls at hl ⊢
  have hl : lv_has ls 1 [(0, .ref oC)] := hl
  have hG := PX1_clear_eq
  refine lv_aload_n hx hb dX1_clear_0 rfl (lv_at hl 0 rfl) ?_
  refine lv_iconst (v := 0) hx hb dX1_clear_1 (by decide) ?_
  refine va_put (D := (dC, dI)) (ci := 1) (v := .int 0) (ty := .int) (C := RX1) (T := TX1) (N := 19) hx hb hts inX1 tyX1 tyX1_ok nmX1 hown hK hP hD hS 0 rfl rfl 0 (by decide) (hts _ wd_215) (fun _ h9 => h9) rfl (by decide +kernel) rfl rfl (Nat.le_of_ble_eq_true rfl) dX1_clear_2 (fun H locs hP hD hS => ?_)
  obtain ⟨hP, hD⟩ := wl2 (ws' := [(oc1 oC 0 iC_words iC_chances iC_unsures iC_slips iC_throneNode iC_saidWorth iC_unit rC_kind rC_parts rC_partNodes rC_weights rC_weightSums rC_toldWorths rC_steps rC_below rC_above rC_unsureWords rC_unsureWorths)]) hP hD rfl
  refine lv_aload_n hx hb dX1_clear_5 rfl (lv_at hl 0 rfl) ?_
  refine lv_iconst (v := 0) hx hb dX1_clear_6 (by decide) ?_
  refine va_put (D := (dC, dI)) (ci := 1) (v := .int 0) (ty := .int) (C := RX1) (T := TX1) (N := 19) hx hb hts inX1 tyX1 tyX1_ok nmX1 hown hK hP hD hS 0 rfl rfl 1 (by decide) (hts _ wd_216) (fun _ h9 => h9) rfl (by decide +kernel) rfl rfl (Nat.le_of_ble_eq_true rfl) dX1_clear_7 (fun H locs hP hD hS => ?_)
  obtain ⟨hP, hD⟩ := wl2 (ws' := [(oc1 oC 0 0 iC_chances iC_unsures iC_slips iC_throneNode iC_saidWorth iC_unit rC_kind rC_parts rC_partNodes rC_weights rC_weightSums rC_toldWorths rC_steps rC_below rC_above rC_unsureWords rC_unsureWorths)]) hP hD rfl
  refine lv_aload_n hx hb dX1_clear_10 rfl (lv_at hl 0 rfl) ?_
  refine lv_iconst (v := 0) hx hb dX1_clear_11 (by decide) ?_
  refine va_put (D := (dC, dI)) (ci := 1) (v := .int 0) (ty := .int) (C := RX1) (T := TX1) (N := 19) hx hb hts inX1 tyX1 tyX1_ok nmX1 hown hK hP hD hS 0 rfl rfl 2 (by decide) (hts _ wd_217) (fun _ h9 => h9) rfl (by decide +kernel) rfl rfl (Nat.le_of_ble_eq_true rfl) dX1_clear_12 (fun H locs hP hD hS => ?_)
  obtain ⟨hP, hD⟩ := wl2 (ws' := [(oc1 oC 0 0 0 iC_unsures iC_slips iC_throneNode iC_saidWorth iC_unit rC_kind rC_parts rC_partNodes rC_weights rC_weightSums rC_toldWorths rC_steps rC_below rC_above rC_unsureWords rC_unsureWorths)]) hP hD rfl
  refine lv_aload_n hx hb dX1_clear_15 rfl (lv_at hl 0 rfl) ?_
  refine lv_iconst (v := 0) hx hb dX1_clear_16 (by decide) ?_
  refine va_put (D := (dC, dI)) (ci := 1) (v := .int 0) (ty := .int) (C := RX1) (T := TX1) (N := 19) hx hb hts inX1 tyX1 tyX1_ok nmX1 hown hK hP hD hS 0 rfl rfl 3 (by decide) (hts _ wd_218) (fun _ h9 => h9) rfl (by decide +kernel) rfl rfl (Nat.le_of_ble_eq_true rfl) dX1_clear_17 (fun H locs hP hD hS => ?_)
  obtain ⟨hP, hD⟩ := wl2 (ws' := [(oc1 oC 0 0 0 0 iC_slips iC_throneNode iC_saidWorth iC_unit rC_kind rC_parts rC_partNodes rC_weights rC_weightSums rC_toldWorths rC_steps rC_below rC_above rC_unsureWords rC_unsureWorths)]) hP hD rfl
  refine lv_aload_n hx hb dX1_clear_20 rfl (lv_at hl 0 rfl) ?_
  refine lv_iconst (v := 0) hx hb dX1_clear_21 (by decide) ?_
  refine va_put (D := (dC, dI)) (ci := 1) (v := .int 0) (ty := .int) (C := RX1) (T := TX1) (N := 19) hx hb hts inX1 tyX1 tyX1_ok nmX1 hown hK hP hD hS 0 rfl rfl 4 (by decide) (hts _ wd_219) (fun _ h9 => h9) rfl (by decide +kernel) rfl rfl (Nat.le_of_ble_eq_true rfl) dX1_clear_22 (fun H locs hP hD hS => ?_)
  obtain ⟨hP, hD⟩ := wl2 (ws' := [(oc1 oC 0 0 0 0 0 iC_throneNode iC_saidWorth iC_unit rC_kind rC_parts rC_partNodes rC_weights rC_weightSums rC_toldWorths rC_steps rC_below rC_above rC_unsureWords rC_unsureWorths)]) hP hD rfl
  refine lv_aload_n hx hb dX1_clear_25 rfl (lv_at hl 0 rfl) ?_
  refine lv_iconst (v := (-1)) hx hb dX1_clear_26 (by decide) ?_
  refine va_put (D := (dC, dI)) (ci := 1) (v := .int (-1)) (ty := .int) (C := RX1) (T := TX1) (N := 19) hx hb hts inX1 tyX1 tyX1_ok nmX1 hown hK hP hD hS 0 rfl rfl 5 (by decide) (hts _ wd_66) (fun _ h9 => h9) rfl (by decide +kernel) rfl rfl (Nat.le_of_ble_eq_true rfl) dX1_clear_27 (fun H locs hP hD hS => ?_)
  obtain ⟨hP, hD⟩ := wl2 (ws' := [(oc1 oC 0 0 0 0 0 (-1) iC_saidWorth iC_unit rC_kind rC_parts rC_partNodes rC_weights rC_weightSums rC_toldWorths rC_steps rC_below rC_above rC_unsureWords rC_unsureWorths)]) hP hD rfl
  refine lv_aload_n hx hb dX1_clear_30 rfl (lv_at hl 0 rfl) ?_
  refine lv_iconst (v := (-1)) hx hb dX1_clear_31 (by decide) ?_
  refine va_put (D := (dC, dI)) (ci := 1) (v := .int (-1)) (ty := .int) (C := RX1) (T := TX1) (N := 19) hx hb hts inX1 tyX1 tyX1_ok nmX1 hown hK hP hD hS 0 rfl rfl 6 (by decide) (hts _ wd_65) (fun _ h9 => h9) rfl (by decide +kernel) rfl rfl (Nat.le_of_ble_eq_true rfl) dX1_clear_32 (fun H locs hP hD hS => ?_)
  obtain ⟨hP, hD⟩ := wl2 (ws' := [(oc1 oC 0 0 0 0 0 (-1) (-1) iC_unit rC_kind rC_parts rC_partNodes rC_weights rC_weightSums rC_toldWorths rC_steps rC_below rC_above rC_unsureWords rC_unsureWorths)]) hP hD rfl
  refine lv_aload_n hx hb dX1_clear_35 rfl (lv_at hl 0 rfl) ?_
  refine lv_iconst (v := 1) hx hb dX1_clear_36 (by decide) ?_
  refine va_put (D := (dC, dI)) (ci := 1) (v := .int 1) (ty := .int) (C := RX1) (T := TX1) (N := 19) hx hb hts inX1 tyX1 tyX1_ok nmX1 hown hK hP hD hS 0 rfl rfl 7 (by decide) (hts _ wd_67) (fun _ h9 => h9) rfl (by decide +kernel) rfl rfl (Nat.le_of_ble_eq_true rfl) dX1_clear_37 (fun H locs hP hD hS => ?_)
  obtain ⟨hP, hD⟩ := wl2 (ws' := [(oc1 oC 0 0 0 0 0 (-1) (-1) 1 rC_kind rC_parts rC_partNodes rC_weights rC_weightSums rC_toldWorths rC_steps rC_below rC_above rC_unsureWords rC_unsureWorths)]) hP hD rfl
  exact wq_v hx hb hr 0 trivial (fun t ht hW => ⟨0, 0, 0, 0, 0, (-1), (-1), 1, (by decide), (by decide), (by decide), (by decide), (by decide), (by decide), (by decide), (by decide), hG, Bw.to hP hD hK ht hW⟩) hS dX1_clear_40 hlocks
set_option maxHeartbeats 4000000 in
set_option maxRecDepth 100000 in
theorem tX1_hasNode (l : Launch) (dC : Nat → ClassId) (dI : Nat → Nat → Nat) (sz : Nat) (oC : Nat) (iC_nodes : Int32) (iC_words : Int32) (iC_chances : Int32) (iC_unsures : Int32) (iC_slips : Int32) (iC_throneNode : Int32) (iC_saidWorth : Int32) (iC_unit : Int32) (rC_kind : Nat) (rC_parts : Nat) (rC_partNodes : Nat) (rC_weights : Nat) (rC_weightSums : Nat) (rC_toldWorths : Nat) (rC_steps : Nat) (rC_below : Nat) (rC_above : Nat) (rC_unsureWords : Nat) (rC_unsureWorths : Nat) (p0 : Int32) (b_iC_nodes : 0 ≤ iC_nodes.toInt ∧ iC_nodes.toInt ≤ 18) (b_iC_unsures : 0 ≤ iC_unsures.toInt ∧ iC_unsures.toInt ≤ 4) (b_iC_throneNode : (-1) ≤ iC_throneNode.toInt ∧ iC_throneNode.toInt ≤ 17)  : Met l yX1_hasNode (Cond.code yX1_hasNode cX1_hasNode 2 (some .boolean) :: wG) ({ frames := 0, cells := 0, slots := 0, locals := 0 }) (va_Pc [.ref oC, .int p0] (Pw dC dI sz [(oc1 oC iC_nodes iC_words iC_chances iC_unsures iC_slips iC_throneNode iC_saidWorth iC_unit rC_kind rC_parts rC_partNodes rC_weights rC_weightSums rC_toldWorths rC_steps rC_below rC_above rC_unsureWords rC_unsureWorths)] [])) (va_Qi (fun (r : Int32) (_ : Nat) => ((r = 0 ∨ r = 1) ∧ ((r = 1 ∧ 0 ≤ p0.toInt ∧ p0.toInt < iC_nodes.toInt) ∨ (r = 0 ∧ True))) ∧ PX1_hasNode iC_nodes p0 = r) (fun (_ : Nat) (t : State) => Bw dC dI (va_A [(oc1 oC iC_nodes iC_words iC_chances iC_unsures iC_slips iC_throneNode iC_saidWorth iC_unit rC_kind rC_parts rC_partNodes rC_weights rC_weightSums rC_toldWorths rC_steps rC_below rC_above rC_unsureWords rC_unsureWorths)] sz) [(oc1 oC iC_nodes iC_words iC_chances iC_unsures iC_slips iC_throneNode iC_saidWorth iC_unit rC_kind rC_parts rC_partNodes rC_weights rC_weightSums rC_toldWorths rC_steps rC_below rC_above rC_unsureWords rC_unsureWorths)] [] t) (va_A [(oc1 oC iC_nodes iC_words iC_chances iC_unsures iC_slips iC_throneNode iC_saidWorth iC_unit rC_kind rC_parts rC_partNodes rC_weights rC_weightSums rC_toldWorths rC_steps rC_below rC_above rC_unsureWords rC_unsureWorths)] sz)) 0 0 (va_A [(oc1 oC iC_nodes iC_words iC_chances iC_unsures iC_slips iC_throneNode iC_saidWorth iC_unit rC_kind rC_parts rC_partNodes rC_weights rC_weightSums rC_toldWorths rC_steps rC_below rC_above rC_unsureWords rC_unsureWorths)] sz) := by
  refine Met.ofW (cc := cX1_hasNode) (maxL := 2) (ret := (some .boolean)) pnX1 rfl ?_
  intro p e s m args below meth c s₁ B hml hv
  obtain ⟨rfl, hsz, hP, hK, hD0, hE⟩ := hv
  have hx := B.exec
  have hb := B.bytes
  have hr := B.returns
  have hts : ∀ w ∈ wG, w.before ([.ref oC, .int p0] : List Value).toArray s = true := fun w h => atoms_spec (ws := Cond.code yX1_hasNode cX1_hasNode 2 (some .boolean) :: wG) B.pre w (List.mem_cons_of_mem _ h)
  have hown : s.vm.findClass RX1 = some m.cls := own_of B.named rfl
  have hlocks := B.notSynchronized
  subst hsz
  have hD := hD0.self (sz := s.heap.size)
  generalize hAe : va_A [(oc1 oC iC_nodes iC_words iC_chances iC_unsures iC_slips iC_throneNode iC_saidWorth iC_unit rC_kind rC_parts rC_partNodes rC_weights rC_weightSums rC_toldWorths rC_steps rC_below rC_above rC_unsureWords rC_unsureWorths)] s.heap.size = A at hD hE ⊢
  have hA : ∀ q : Nat, s.heap.size ≤ q → A q := fun q h => by rw [← hAe]; exact Or.inr h
  have hS : va_S A s.heap s.heap [] := va_S.rf
  have hl := lv_entry ([.ref oC, .int p0]) (n := 2) (Nat.le_of_ble_eq_true rfl)
  rw [lg_entry_eq]
  generalize (lg_sl ([.ref oC, .int p0]) ++ List.replicate (2 - (lg_sl ([.ref oC, .int p0])).length) Slot.unset).toArray = ls at hl ⊢
  have hl : lv_has ls 2 [(0, .ref oC), (1, .int p0)] := hl
  have hG := PX1_hasNode_eq iC_nodes p0
  refine lv_iload_n hx hb dX1_hasNode_0 rfl (lv_at hl 1 rfl) ?_
  refine lv_if_lt (tgt := 16) hx hb dX1_hasNode_1 (by decide) (fun c_98 => ?_) (fun c_98 => ?_)
  · skip
    have hG := hG.trans (if_pos c_98)
    have gc_98 := ti_lt c_98 rfl kc_0
    refine lv_iconst (v := 0) hx hb dX1_hasNode_16 (by decide) ?_
    exact wq_z (v := 0) hx hb hr rfl 0 ⟨⟨Or.inl rfl, (Or.inr (⟨rfl, trivial⟩))⟩, hG⟩ (fun t ht hW => Bw.to hP hD hK ht hW) hS dX1_hasNode_17 hlocks
  · skip
    have hG := hG.trans (if_neg c_98)
    have gc_98 := ti_nlt c_98 rfl kc_0
    refine lv_iload_n hx hb dX1_hasNode_4 rfl (lv_at hl 1 rfl) ?_
    refine lv_aload_n hx hb dX1_hasNode_5 rfl (lv_at hl 0 rfl) ?_
    refine va_get (D := (dC, dI)) (ci := 1) (v := .int iC_nodes) (C := RX1) (T := TX1) (N := 19) hx hb hts inX1 hown hK hP 0 rfl rfl 0 (by decide) (hts _ wd_215) (fun _ h9 => h9) rfl dX1_hasNode_6 ?_
    refine lv_icmp_ge (tgt := 16) hx hb dX1_hasNode_9 (by decide) (fun c_99 => ?_) (fun c_99 => ?_)
    · skip
      have hG := hG.trans (if_pos c_99)
      have gc_99 := ti_le c_99 rfl rfl
      refine lv_iconst (v := 0) hx hb dX1_hasNode_16 (by decide) ?_
      exact wq_z (v := 0) hx hb hr rfl 0 ⟨⟨Or.inl rfl, (Or.inr (⟨rfl, trivial⟩))⟩, hG⟩ (fun t ht hW => Bw.to hP hD hK ht hW) hS dX1_hasNode_17 hlocks
    · skip
      have hG := hG.trans (if_neg c_99)
      have gc_99 := ti_nle c_99 rfl rfl
      refine lv_iconst (v := 1) hx hb dX1_hasNode_12 (by decide) ?_
      refine lv_goto (tgt := 17) hx hb dX1_hasNode_13 (by decide) ?_
      exact wq_z (v := 1) hx hb hr rfl 0 ⟨⟨Or.inr rfl, (Or.inl ⟨rfl, by first | omega | trivial⟩)⟩, hG⟩ (fun t ht hW => Bw.to hP hD hK ht hW) hS dX1_hasNode_17 hlocks
set_option maxHeartbeats 4000000 in
set_option maxRecDepth 100000 in
theorem tX1_hasWord (l : Launch) (dC : Nat → ClassId) (dI : Nat → Nat → Nat) (sz : Nat) (oC : Nat) (iC_nodes : Int32) (iC_words : Int32) (iC_chances : Int32) (iC_unsures : Int32) (iC_slips : Int32) (iC_throneNode : Int32) (iC_saidWorth : Int32) (iC_unit : Int32) (rC_kind : Nat) (fC_kind : Nat → Int32) (kC_kind : ClassId) (rC_parts : Nat) (rC_partNodes : Nat) (rC_weights : Nat) (rC_weightSums : Nat) (rC_toldWorths : Nat) (rC_steps : Nat) (rC_below : Nat) (rC_above : Nat) (rC_unsureWords : Nat) (rC_unsureWorths : Nat) (p0 : Int32) (b_iC_nodes : 0 ≤ iC_nodes.toInt ∧ iC_nodes.toInt ≤ 18) (b_iC_unsures : 0 ≤ iC_unsures.toInt ∧ iC_unsures.toInt ≤ 4) (b_iC_throneNode : (-1) ≤ iC_throneNode.toInt ∧ iC_throneNode.toInt ≤ 17)  : Met l yX1_hasWord (Cond.code yX1_hasWord cX1_hasWord 2 (some .boolean) :: wG) ({ frames := 1, cells := 0, slots := 0, locals := 21 }) (va_Pc [.ref oC, .int p0] (Pw dC dI sz [(oc1 oC iC_nodes iC_words iC_chances iC_unsures iC_slips iC_throneNode iC_saidWorth iC_unit rC_kind rC_parts rC_partNodes rC_weights rC_weightSums rC_toldWorths rC_steps rC_below rC_above rC_unsureWords rC_unsureWorths), (arI rC_kind kC_kind 18 fC_kind)] [(kC_kind, .int)])) (va_Qi (fun (r : Int32) (_ : Nat) => ((r = 0 ∨ r = 1) ∧ ((r = 1 ∧ 0 ≤ p0.toInt ∧ p0.toInt < iC_nodes.toInt) ∨ (r = 0 ∧ True))) ∧ PX1_hasWord iC_nodes fC_kind p0 = r) (fun (_ : Nat) (t : State) => Bw dC dI (va_A [(oc1 oC iC_nodes iC_words iC_chances iC_unsures iC_slips iC_throneNode iC_saidWorth iC_unit rC_kind rC_parts rC_partNodes rC_weights rC_weightSums rC_toldWorths rC_steps rC_below rC_above rC_unsureWords rC_unsureWorths), (arI rC_kind kC_kind 18 fC_kind)] sz) [(oc1 oC iC_nodes iC_words iC_chances iC_unsures iC_slips iC_throneNode iC_saidWorth iC_unit rC_kind rC_parts rC_partNodes rC_weights rC_weightSums rC_toldWorths rC_steps rC_below rC_above rC_unsureWords rC_unsureWorths), (arI rC_kind kC_kind 18 fC_kind)] [(kC_kind, .int)] t) (va_A [(oc1 oC iC_nodes iC_words iC_chances iC_unsures iC_slips iC_throneNode iC_saidWorth iC_unit rC_kind rC_parts rC_partNodes rC_weights rC_weightSums rC_toldWorths rC_steps rC_below rC_above rC_unsureWords rC_unsureWorths), (arI rC_kind kC_kind 18 fC_kind)] sz)) 0 0 (va_A [(oc1 oC iC_nodes iC_words iC_chances iC_unsures iC_slips iC_throneNode iC_saidWorth iC_unit rC_kind rC_parts rC_partNodes rC_weights rC_weightSums rC_toldWorths rC_steps rC_below rC_above rC_unsureWords rC_unsureWorths), (arI rC_kind kC_kind 18 fC_kind)] sz) := by
  refine Met.ofW (cc := cX1_hasWord) (maxL := 2) (ret := (some .boolean)) pnX1 rfl ?_
  intro p e s m args below meth c s₁ B hml hv
  obtain ⟨rfl, hsz, hP, hK, hD0, hE⟩ := hv
  have hx := B.exec
  have hb := B.bytes
  have hr := B.returns
  have hts : ∀ w ∈ wG, w.before ([.ref oC, .int p0] : List Value).toArray s = true := fun w h => atoms_spec (ws := Cond.code yX1_hasWord cX1_hasWord 2 (some .boolean) :: wG) B.pre w (List.mem_cons_of_mem _ h)
  have hown : s.vm.findClass RX1 = some m.cls := own_of B.named rfl
  have hlocks := B.notSynchronized
  subst hsz
  have hD := hD0.self (sz := s.heap.size)
  generalize hAe : va_A [(oc1 oC iC_nodes iC_words iC_chances iC_unsures iC_slips iC_throneNode iC_saidWorth iC_unit rC_kind rC_parts rC_partNodes rC_weights rC_weightSums rC_toldWorths rC_steps rC_below rC_above rC_unsureWords rC_unsureWorths), (arI rC_kind kC_kind 18 fC_kind)] s.heap.size = A at hD hE ⊢
  have hA : ∀ q : Nat, s.heap.size ≤ q → A q := fun q h => by rw [← hAe]; exact Or.inr h
  have hS : va_S A s.heap s.heap [] := va_S.rf
  have hl := lv_entry ([.ref oC, .int p0]) (n := 2) (Nat.le_of_ble_eq_true rfl)
  rw [lg_entry_eq]
  generalize (lg_sl ([.ref oC, .int p0]) ++ List.replicate (2 - (lg_sl ([.ref oC, .int p0])).length) Slot.unset).toArray = ls at hl ⊢
  have hl : lv_has ls 2 [(0, .ref oC), (1, .int p0)] := hl
  have hG := PX1_hasWord_eq iC_nodes fC_kind p0
  refine lv_aload_n hx hb dX1_hasWord_0 rfl (lv_at hl 0 rfl) ?_
  refine lv_iload_n hx hb dX1_hasWord_1 rfl (lv_at hl 1 rfl) ?_
  have hMs := ml_of hD [true, false] (wc := [(oc1 oC iC_nodes iC_words iC_chances iC_unsures iC_slips iC_throneNode iC_saidWorth iC_unit rC_kind rC_parts rC_partNodes rC_weights rC_weightSums rC_toldWorths rC_steps rC_below rC_above rC_unsureWords rC_unsureWorths)]) rfl
  have hFc := va_freeM hD hS hA _ hMs
  refine va_calli (va_runV (As := [.int p0]) (rest := []) ⟨hx, hb, hml, hown, hts⟩ (tX1_hasNode l dC dI _ oC iC_nodes iC_words iC_chances iC_unsures iC_slips iC_throneNode iC_saidWorth iC_unit rC_kind rC_parts rC_partNodes rC_weights rC_weightSums rC_toldWorths rC_steps rC_below rC_above rC_unsureWords rC_unsureWorths p0 b_iC_nodes b_iC_unsures b_iC_throneNode) (cwV 1 hts (wd_V wd_325 wd_326 wd_327 wd_19 (wd_c wd_328)) rfl rfl rfl dv_yX1_hasNode_1 ⟨Nat.le_of_ble_eq_true rfl, Nat.le_of_ble_eq_true rfl⟩) ⟨Pw.fb, recvX1 hK hP (q0 := 0) rfl, fun U hU hW => Pw.to (hP.ms _ hMs) (hD.ms _ hMs) (hK.ms [false] rfl) hE hS hFc hU hW⟩ rfl rfl hl.1 rfl (lv_room (Nat.le_of_ble_eq_true rfl)) dX1_hasWord_2 ⟨Nat.le_of_ble_eq_true rfl, Nat.le_of_ble_eq_true rfl⟩) hS (fun q _ h => hFc q h) hFc (fun r u t H locs ht hvm hw hB hz1 hk1 hS => ?_)
  have hru9 := hw.2
  have hw := hw.1
  obtain ⟨hP, hD⟩ := Bw.goN (ws' := [(oc1 oC iC_nodes iC_words iC_chances iC_unsures iC_slips iC_throneNode iC_saidWorth iC_unit rC_kind rC_parts rC_partNodes rC_weights rC_weightSums rC_toldWorths rC_steps rC_below rC_above rC_unsureWords rC_unsureWorths), (arI rC_kind kC_kind 18 fC_kind)]) hB rfl ht hP hD _ hMs hk1 hFc rfl
  clear hz1 hk1 hvm ht hB hMs
  rcases hw.2 with ⟨rfl, hc_105⟩ | ⟨rfl, hc_105⟩
  · skip
    have hG := hG.trans (lt_eq hru9.symm)
    have hG := hG.trans (if_pos rfl)
    refine lv_if_eq (tgt := 21) hx hb dX1_hasWord_5 (by decide) (fun c => absurd c (by decide)) (fun _ => ?_)
    refine lv_aload_n hx hb dX1_hasWord_8 rfl (lv_at hl 0 rfl) ?_
    refine va_get (D := (dC, dI)) (ci := 1) (v := .ref rC_kind) (C := RX1) (T := TX1) (N := 19) hx hb hts inX1 hown hK hP 0 rfl rfl 8 (by decide) (hts _ wd_54) (fun _ h9 => h9) rfl dX1_hasWord_9 ?_
    refine lv_iload_n hx hb dX1_hasWord_12 rfl (lv_at hl 1 rfl) ?_
    refine va_iald hx hb hK hP 1 0 rfl rfl (ti_in rfl hc_105.1 (om_97cd4a7c b_iC_nodes.2 hc_105.2)) dX1_hasWord_13 ?_
    refine lv_topi (fun x_108 ex_108 => ?_)
    have hG := hG.trans (lt_eq ex_108)
    have kx_108 : (fC_kind p0.toNatClampNeg).toInt = x_108.toInt := by rw [ex_108]
    refine lv_if_ne (tgt := 21) hx hb dX1_hasWord_14 (by decide) (fun c_109 => ?_) (fun c_109 => ?_)
    · skip
      have hG := hG.trans (if_neg c_109)
      have gc_109 := ti_ne c_109 rfl kc_0
      refine lv_iconst (v := 0) hx hb dX1_hasWord_21 (by decide) ?_
      exact wq_z (v := 0) hx hb hr rfl 0 ⟨⟨Or.inl rfl, (Or.inr (⟨rfl, trivial⟩))⟩, hG⟩ (fun t ht hW => Bw.to hP hD hK ht hW) hS dX1_hasWord_22 hlocks
    · skip
      have hG := hG.trans (if_pos c_109)
      have gc_109 := ti_eq c_109 rfl kc_0
      refine lv_iconst (v := 1) hx hb dX1_hasWord_17 (by decide) ?_
      refine lv_goto (tgt := 22) hx hb dX1_hasWord_18 (by decide) ?_
      exact wq_z (v := 1) hx hb hr rfl 0 ⟨⟨Or.inr rfl, (Or.inl ⟨rfl, by first | omega | trivial⟩)⟩, hG⟩ (fun t ht hW => Bw.to hP hD hK ht hW) hS dX1_hasWord_22 hlocks
  · skip
    have hG := hG.trans (lt_eq hru9.symm)
    have hG := hG.trans (if_neg (by decide))
    refine lv_if_eq (tgt := 21) hx hb dX1_hasWord_5 (by decide) (fun _ => ?_) (fun c => absurd c (by decide))
    refine lv_iconst (v := 0) hx hb dX1_hasWord_21 (by decide) ?_
    exact wq_z (v := 0) hx hb hr rfl 0 ⟨⟨Or.inl rfl, (Or.inr (⟨rfl, trivial⟩))⟩, hG⟩ (fun t ht hW => Bw.to hP hD hK ht hW) hS dX1_hasWord_22 hlocks
set_option maxHeartbeats 4000000 in
set_option maxRecDepth 100000 in
theorem tX1_hasRoomFor (l : Launch) (dC : Nat → ClassId) (dI : Nat → Nat → Nat) (sz : Nat) (oC : Nat) (iC_nodes : Int32) (iC_words : Int32) (iC_chances : Int32) (iC_unsures : Int32) (iC_slips : Int32) (iC_throneNode : Int32) (iC_saidWorth : Int32) (iC_unit : Int32) (rC_kind : Nat) (rC_parts : Nat) (rC_partNodes : Nat) (rC_weights : Nat) (rC_weightSums : Nat) (rC_toldWorths : Nat) (rC_steps : Nat) (rC_below : Nat) (rC_above : Nat) (rC_unsureWords : Nat) (rC_unsureWorths : Nat) (p0 : Int32) (b_iC_nodes : 0 ≤ iC_nodes.toInt ∧ iC_nodes.toInt ≤ 18) (b_iC_unsures : 0 ≤ iC_unsures.toInt ∧ iC_unsures.toInt ≤ 4) (b_iC_throneNode : (-1) ≤ iC_throneNode.toInt ∧ iC_throneNode.toInt ≤ 17)  : Met l yX1_hasRoomFor (Cond.code yX1_hasRoomFor cX1_hasRoomFor 2 (some .boolean) :: wG) ({ frames := 0, cells := 0, slots := 0, locals := 0 }) (va_Pc [.ref oC, .int p0] (Pw dC dI sz [(oc1 oC iC_nodes iC_words iC_chances iC_unsures iC_slips iC_throneNode iC_saidWorth iC_unit rC_kind rC_parts rC_partNodes rC_weights rC_weightSums rC_toldWorths rC_steps rC_below rC_above rC_unsureWords rC_unsureWorths)] [])) (va_Qi (fun (r : Int32) (_ : Nat) => ((r = 0 ∨ r = 1) ∧ ((r = 1 ∧ iC_nodes.toInt < 18) ∨ (r = 0 ∧ True))) ∧ PX1_hasRoomFor iC_nodes iC_words iC_chances p0 = r) (fun (_ : Nat) (t : State) => Bw dC dI (va_A [(oc1 oC iC_nodes iC_words iC_chances iC_unsures iC_slips iC_throneNode iC_saidWorth iC_unit rC_kind rC_parts rC_partNodes rC_weights rC_weightSums rC_toldWorths rC_steps rC_below rC_above rC_unsureWords rC_unsureWorths)] sz) [(oc1 oC iC_nodes iC_words iC_chances iC_unsures iC_slips iC_throneNode iC_saidWorth iC_unit rC_kind rC_parts rC_partNodes rC_weights rC_weightSums rC_toldWorths rC_steps rC_below rC_above rC_unsureWords rC_unsureWorths)] [] t) (va_A [(oc1 oC iC_nodes iC_words iC_chances iC_unsures iC_slips iC_throneNode iC_saidWorth iC_unit rC_kind rC_parts rC_partNodes rC_weights rC_weightSums rC_toldWorths rC_steps rC_below rC_above rC_unsureWords rC_unsureWorths)] sz)) 0 0 (va_A [(oc1 oC iC_nodes iC_words iC_chances iC_unsures iC_slips iC_throneNode iC_saidWorth iC_unit rC_kind rC_parts rC_partNodes rC_weights rC_weightSums rC_toldWorths rC_steps rC_below rC_above rC_unsureWords rC_unsureWorths)] sz) := by
  refine Met.ofW (cc := cX1_hasRoomFor) (maxL := 2) (ret := (some .boolean)) pnX1 rfl ?_
  intro p e s m args below meth c s₁ B hml hv
  obtain ⟨rfl, hsz, hP, hK, hD0, hE⟩ := hv
  have hx := B.exec
  have hb := B.bytes
  have hr := B.returns
  have hts : ∀ w ∈ wG, w.before ([.ref oC, .int p0] : List Value).toArray s = true := fun w h => atoms_spec (ws := Cond.code yX1_hasRoomFor cX1_hasRoomFor 2 (some .boolean) :: wG) B.pre w (List.mem_cons_of_mem _ h)
  have hown : s.vm.findClass RX1 = some m.cls := own_of B.named rfl
  have hlocks := B.notSynchronized
  subst hsz
  have hD := hD0.self (sz := s.heap.size)
  generalize hAe : va_A [(oc1 oC iC_nodes iC_words iC_chances iC_unsures iC_slips iC_throneNode iC_saidWorth iC_unit rC_kind rC_parts rC_partNodes rC_weights rC_weightSums rC_toldWorths rC_steps rC_below rC_above rC_unsureWords rC_unsureWorths)] s.heap.size = A at hD hE ⊢
  have hA : ∀ q : Nat, s.heap.size ≤ q → A q := fun q h => by rw [← hAe]; exact Or.inr h
  have hS : va_S A s.heap s.heap [] := va_S.rf
  have hl := lv_entry ([.ref oC, .int p0]) (n := 2) (Nat.le_of_ble_eq_true rfl)
  rw [lg_entry_eq]
  generalize (lg_sl ([.ref oC, .int p0]) ++ List.replicate (2 - (lg_sl ([.ref oC, .int p0])).length) Slot.unset).toArray = ls at hl ⊢
  have hl : lv_has ls 2 [(0, .ref oC), (1, .int p0)] := hl
  have hG := PX1_hasRoomFor_eq iC_nodes iC_words iC_chances p0
  refine lv_aload_n hx hb dX1_hasRoomFor_0 rfl (lv_at hl 0 rfl) ?_
  refine va_get (D := (dC, dI)) (ci := 1) (v := .int iC_nodes) (C := RX1) (T := TX1) (N := 19) hx hb hts inX1 hown hK hP 0 rfl rfl 0 (by decide) (hts _ wd_215) (fun _ h9 => h9) rfl dX1_hasRoomFor_1 ?_
  refine lv_bipush (v := 18) hx hb dX1_hasRoomFor_4 (by decide) ?_
  refine lv_icmp_lt (tgt := 11) hx hb dX1_hasRoomFor_6 (by decide) (fun c_118 => ?_) (fun c_118 => ?_)
  · skip
    have hG := hG.trans (if_pos c_118)
    have gc_118 := ti_lt c_118 rfl kc_18
    refine lv_iload_n hx hb dX1_hasRoomFor_11 rfl (lv_at hl 1 rfl) ?_
    refine lv_if_ne (tgt := 30) hx hb dX1_hasRoomFor_12 (by decide) (fun c_119 => ?_) (fun c_119 => ?_)
    · skip
      have hG := hG.trans (if_neg c_119)
      have gc_119 := ti_ne c_119 rfl kc_0
      refine lv_aload_n hx hb dX1_hasRoomFor_30 rfl (lv_at hl 0 rfl) ?_
      refine va_get (D := (dC, dI)) (ci := 1) (v := .int iC_nodes) (C := RX1) (T := TX1) (N := 19) hx hb hts inX1 hown hK hP 0 rfl rfl 0 (by decide) (hts _ wd_215) (fun _ h9 => h9) rfl dX1_hasRoomFor_31 ?_
      refine lv_aload_n hx hb dX1_hasRoomFor_34 rfl (lv_at hl 0 rfl) ?_
      refine va_get (D := (dC, dI)) (ci := 1) (v := .int iC_words) (C := RX1) (T := TX1) (N := 19) hx hb hts inX1 hown hK hP 0 rfl rfl 1 (by decide) (hts _ wd_216) (fun _ h9 => h9) rfl dX1_hasRoomFor_35 ?_
      refine lv_isub hx hb dX1_hasRoomFor_38 ?_
      refine lv_topi (fun x_120 ex_120 => ?_)
      have hG := hG.trans (lt_eq ex_120)
      refine lv_bipush (v := 8) hx hb dX1_hasRoomFor_39 (by decide) ?_
      refine lv_icmp_ge (tgt := 61) hx hb dX1_hasRoomFor_41 (by decide) (fun c_121 => ?_) (fun c_121 => ?_)
      · skip
        have hG := hG.trans (if_pos c_121)
        have gc_121 := ti_le c_121 kc_8 rfl
        refine lv_iconst (v := 0) hx hb dX1_hasRoomFor_61 (by decide) ?_
        exact wq_z (v := 0) hx hb hr rfl 0 ⟨⟨Or.inl rfl, (Or.inr (⟨rfl, trivial⟩))⟩, hG⟩ (fun t ht hW => Bw.to hP hD hK ht hW) hS dX1_hasRoomFor_62 hlocks
      · skip
        have hG := hG.trans (if_neg c_121)
        have gc_121 := ti_nle c_121 kc_8 rfl
        refine lv_iload_n hx hb dX1_hasRoomFor_44 rfl (lv_at hl 1 rfl) ?_
        refine lv_iconst (v := 3) hx hb dX1_hasRoomFor_45 (by decide) ?_
        refine lv_icmp_ne (tgt := 57) hx hb dX1_hasRoomFor_46 (by decide) (fun c_122 => ?_) (fun c_122 => ?_)
        · skip
          have hG := hG.trans (if_neg c_122)
          have gc_122 := ti_ne c_122 rfl kc_3
          refine lv_iconst (v := 1) hx hb dX1_hasRoomFor_57 (by decide) ?_
          refine lv_goto (tgt := 62) hx hb dX1_hasRoomFor_58 (by decide) ?_
          exact wq_z (v := 1) hx hb hr rfl 0 ⟨⟨Or.inr rfl, (Or.inl ⟨rfl, by first | omega | trivial⟩)⟩, hG⟩ (fun t ht hW => Bw.to hP hD hK ht hW) hS dX1_hasRoomFor_62 hlocks
        · skip
          have hG := hG.trans (if_pos c_122)
          have gc_122 := ti_eq c_122 rfl kc_3
          refine lv_aload_n hx hb dX1_hasRoomFor_49 rfl (lv_at hl 0 rfl) ?_
          refine va_get (D := (dC, dI)) (ci := 1) (v := .int iC_chances) (C := RX1) (T := TX1) (N := 19) hx hb hts inX1 hown hK hP 0 rfl rfl 2 (by decide) (hts _ wd_217) (fun _ h9 => h9) rfl dX1_hasRoomFor_50 ?_
          refine lv_iconst (v := 2) hx hb dX1_hasRoomFor_53 (by decide) ?_
          refine lv_icmp_ge (tgt := 61) hx hb dX1_hasRoomFor_54 (by decide) (fun c_123 => ?_) (fun c_123 => ?_)
          · skip
            have hG := hG.trans (if_pos c_123)
            have gc_123 := ti_le c_123 kc_2 rfl
            refine lv_iconst (v := 0) hx hb dX1_hasRoomFor_61 (by decide) ?_
            exact wq_z (v := 0) hx hb hr rfl 0 ⟨⟨Or.inl rfl, (Or.inr (⟨rfl, trivial⟩))⟩, hG⟩ (fun t ht hW => Bw.to hP hD hK ht hW) hS dX1_hasRoomFor_62 hlocks
          · skip
            have hG := hG.trans (if_neg c_123)
            have gc_123 := ti_nle c_123 kc_2 rfl
            refine lv_iconst (v := 1) hx hb dX1_hasRoomFor_57 (by decide) ?_
            refine lv_goto (tgt := 62) hx hb dX1_hasRoomFor_58 (by decide) ?_
            exact wq_z (v := 1) hx hb hr rfl 0 ⟨⟨Or.inr rfl, (Or.inl ⟨rfl, by first | omega | trivial⟩)⟩, hG⟩ (fun t ht hW => Bw.to hP hD hK ht hW) hS dX1_hasRoomFor_62 hlocks
    · skip
      have hG := hG.trans (if_pos c_119)
      have gc_119 := ti_eq c_119 rfl kc_0
      refine lv_aload_n hx hb dX1_hasRoomFor_15 rfl (lv_at hl 0 rfl) ?_
      refine va_get (D := (dC, dI)) (ci := 1) (v := .int iC_words) (C := RX1) (T := TX1) (N := 19) hx hb hts inX1 hown hK hP 0 rfl rfl 1 (by decide) (hts _ wd_216) (fun _ h9 => h9) rfl dX1_hasRoomFor_16 ?_
      refine lv_bipush (v := 10) hx hb dX1_hasRoomFor_19 (by decide) ?_
      refine lv_icmp_ge (tgt := 28) hx hb dX1_hasRoomFor_21 (by decide) (fun c_124 => ?_) (fun c_124 => ?_)
      · skip
        have hG := hG.trans (if_pos c_124)
        have gc_124 := ti_le c_124 kc_10 rfl
        refine lv_iconst (v := 0) hx hb dX1_hasRoomFor_28 (by decide) ?_
        exact wq_z (v := 0) hx hb hr rfl 0 ⟨⟨Or.inl rfl, (Or.inr (⟨rfl, trivial⟩))⟩, hG⟩ (fun t ht hW => Bw.to hP hD hK ht hW) hS dX1_hasRoomFor_29 hlocks
      · skip
        have hG := hG.trans (if_neg c_124)
        have gc_124 := ti_nle c_124 kc_10 rfl
        refine lv_iconst (v := 1) hx hb dX1_hasRoomFor_24 (by decide) ?_
        refine lv_goto (tgt := 29) hx hb dX1_hasRoomFor_25 (by decide) ?_
        exact wq_z (v := 1) hx hb hr rfl 0 ⟨⟨Or.inr rfl, (Or.inl ⟨rfl, by first | omega | trivial⟩)⟩, hG⟩ (fun t ht hW => Bw.to hP hD hK ht hW) hS dX1_hasRoomFor_29 hlocks
  · skip
    have hG := hG.trans (if_neg c_118)
    have gc_118 := ti_nlt c_118 rfl kc_18
    refine lv_iconst (v := 0) hx hb dX1_hasRoomFor_9 (by decide) ?_
    exact wq_z (v := 0) hx hb hr rfl 0 ⟨⟨Or.inl rfl, (Or.inr (⟨rfl, trivial⟩))⟩, hG⟩ (fun t ht hW => Bw.to hP hD hK ht hW) hS dX1_hasRoomFor_10 hlocks
set_option maxHeartbeats 4000000 in
set_option maxRecDepth 100000 in
theorem tX1_hasRoomForPart (l : Launch) (dC : Nat → ClassId) (dI : Nat → Nat → Nat) (sz : Nat) (oC : Nat) (iC_nodes : Int32) (iC_words : Int32) (iC_chances : Int32) (iC_unsures : Int32) (iC_slips : Int32) (iC_throneNode : Int32) (iC_saidWorth : Int32) (iC_unit : Int32) (rC_kind : Nat) (rC_parts : Nat) (fC_parts : Nat → Int32) (kC_parts : ClassId) (rC_partNodes : Nat) (rC_weights : Nat) (rC_weightSums : Nat) (rC_toldWorths : Nat) (rC_steps : Nat) (rC_below : Nat) (rC_above : Nat) (rC_unsureWords : Nat) (rC_unsureWorths : Nat) (b_iC_nodes : 0 ≤ iC_nodes.toInt ∧ iC_nodes.toInt ≤ 18) (b_iC_unsures : 0 ≤ iC_unsures.toInt ∧ iC_unsures.toInt ≤ 4) (b_iC_throneNode : (-1) ≤ iC_throneNode.toInt ∧ iC_throneNode.toInt ≤ 17) (a_fC_parts : ∀ j : Nat, j < 18 → 0 ≤ (fC_parts j).toInt ∧ (fC_parts j).toInt ≤ 4)  : Met l yX1_hasRoomForPart (Cond.code yX1_hasRoomForPart cX1_hasRoomForPart 1 (some .boolean) :: wG) ({ frames := 0, cells := 0, slots := 0, locals := 0 }) (va_Pc [.ref oC] (Pw dC dI sz [(oc1 oC iC_nodes iC_words iC_chances iC_unsures iC_slips iC_throneNode iC_saidWorth iC_unit rC_kind rC_parts rC_partNodes rC_weights rC_weightSums rC_toldWorths rC_steps rC_below rC_above rC_unsureWords rC_unsureWorths), (arI rC_parts kC_parts 18 fC_parts)] [(kC_parts, .int)])) (va_Qi (fun (r : Int32) (_ : Nat) => ((r = 0 ∨ r = 1) ∧ ((r = 1 ∧ iC_nodes.toInt < 18 ∧ (fC_parts iC_nodes.toNatClampNeg).toInt < 4) ∨ (r = 0 ∧ True))) ∧ PX1_hasRoomForPart iC_nodes fC_parts = r) (fun (_ : Nat) (t : State) => Bw dC dI (va_A [(oc1 oC iC_nodes iC_words iC_chances iC_unsures iC_slips iC_throneNode iC_saidWorth iC_unit rC_kind rC_parts rC_partNodes rC_weights rC_weightSums rC_toldWorths rC_steps rC_below rC_above rC_unsureWords rC_unsureWorths), (arI rC_parts kC_parts 18 fC_parts)] sz) [(oc1 oC iC_nodes iC_words iC_chances iC_unsures iC_slips iC_throneNode iC_saidWorth iC_unit rC_kind rC_parts rC_partNodes rC_weights rC_weightSums rC_toldWorths rC_steps rC_below rC_above rC_unsureWords rC_unsureWorths), (arI rC_parts kC_parts 18 fC_parts)] [(kC_parts, .int)] t) (va_A [(oc1 oC iC_nodes iC_words iC_chances iC_unsures iC_slips iC_throneNode iC_saidWorth iC_unit rC_kind rC_parts rC_partNodes rC_weights rC_weightSums rC_toldWorths rC_steps rC_below rC_above rC_unsureWords rC_unsureWorths), (arI rC_parts kC_parts 18 fC_parts)] sz)) 0 0 (va_A [(oc1 oC iC_nodes iC_words iC_chances iC_unsures iC_slips iC_throneNode iC_saidWorth iC_unit rC_kind rC_parts rC_partNodes rC_weights rC_weightSums rC_toldWorths rC_steps rC_below rC_above rC_unsureWords rC_unsureWorths), (arI rC_parts kC_parts 18 fC_parts)] sz) := by
  refine Met.ofW (cc := cX1_hasRoomForPart) (maxL := 1) (ret := (some .boolean)) pnX1 rfl ?_
  intro p e s m args below meth c s₁ B hml hv
  obtain ⟨rfl, hsz, hP, hK, hD0, hE⟩ := hv
  have hx := B.exec
  have hb := B.bytes
  have hr := B.returns
  have hts : ∀ w ∈ wG, w.before ([.ref oC] : List Value).toArray s = true := fun w h => atoms_spec (ws := Cond.code yX1_hasRoomForPart cX1_hasRoomForPart 1 (some .boolean) :: wG) B.pre w (List.mem_cons_of_mem _ h)
  have hown : s.vm.findClass RX1 = some m.cls := own_of B.named rfl
  have hlocks := B.notSynchronized
  subst hsz
  have hD := hD0.self (sz := s.heap.size)
  generalize hAe : va_A [(oc1 oC iC_nodes iC_words iC_chances iC_unsures iC_slips iC_throneNode iC_saidWorth iC_unit rC_kind rC_parts rC_partNodes rC_weights rC_weightSums rC_toldWorths rC_steps rC_below rC_above rC_unsureWords rC_unsureWorths), (arI rC_parts kC_parts 18 fC_parts)] s.heap.size = A at hD hE ⊢
  have hA : ∀ q : Nat, s.heap.size ≤ q → A q := fun q h => by rw [← hAe]; exact Or.inr h
  have hS : va_S A s.heap s.heap [] := va_S.rf
  have hl := lv_entry ([.ref oC]) (n := 1) (Nat.le_of_ble_eq_true rfl)
  rw [lg_entry_eq]
  generalize (lg_sl ([.ref oC]) ++ List.replicate (1 - (lg_sl ([.ref oC])).length) Slot.unset).toArray = ls at hl ⊢
  have hl : lv_has ls 1 [(0, .ref oC)] := hl
  have hG := PX1_hasRoomForPart_eq iC_nodes fC_parts
  refine lv_aload_n hx hb dX1_hasRoomForPart_0 rfl (lv_at hl 0 rfl) ?_
  refine va_get (D := (dC, dI)) (ci := 1) (v := .int iC_nodes) (C := RX1) (T := TX1) (N := 19) hx hb hts inX1 hown hK hP 0 rfl rfl 0 (by decide) (hts _ wd_215) (fun _ h9 => h9) rfl dX1_hasRoomForPart_1 ?_
  refine lv_bipush (v := 18) hx hb dX1_hasRoomForPart_4 (by decide) ?_
  refine lv_icmp_ge (tgt := 26) hx hb dX1_hasRoomForPart_6 (by decide) (fun c_128 => ?_) (fun c_128 => ?_)
  · skip
    have hG := hG.trans (if_pos c_128)
    have gc_128 := ti_le c_128 kc_18 rfl
    refine lv_iconst (v := 0) hx hb dX1_hasRoomForPart_26 (by decide) ?_
    exact wq_z (v := 0) hx hb hr rfl 0 ⟨⟨Or.inl rfl, (Or.inr (⟨rfl, trivial⟩))⟩, hG⟩ (fun t ht hW => Bw.to hP hD hK ht hW) hS dX1_hasRoomForPart_27 hlocks
  · skip
    have hG := hG.trans (if_neg c_128)
    have gc_128 := ti_nle c_128 kc_18 rfl
    refine lv_aload_n hx hb dX1_hasRoomForPart_9 rfl (lv_at hl 0 rfl) ?_
    refine va_get (D := (dC, dI)) (ci := 1) (v := .ref rC_parts) (C := RX1) (T := TX1) (N := 19) hx hb hts inX1 hown hK hP 0 rfl rfl 9 (by decide) (hts _ wd_55) (fun _ h9 => h9) rfl dX1_hasRoomForPart_10 ?_
    refine lv_aload_n hx hb dX1_hasRoomForPart_13 rfl (lv_at hl 0 rfl) ?_
    refine va_get (D := (dC, dI)) (ci := 1) (v := .int iC_nodes) (C := RX1) (T := TX1) (N := 19) hx hb hts inX1 hown hK hP 0 rfl rfl 0 (by decide) (hts _ wd_215) (fun _ h9 => h9) rfl dX1_hasRoomForPart_14 ?_
    refine va_iald hx hb hK hP 1 0 rfl rfl (ti_in rfl b_iC_nodes.1 (om_c3e6050f gc_128)) dX1_hasRoomForPart_17 ?_
    refine lv_topi (fun x_129 ex_129 => ?_)
    have hG := hG.trans (lt_eq ex_129)
    have kx_129 : (fC_parts iC_nodes.toNatClampNeg).toInt = x_129.toInt := by rw [ex_129]
    have ux_129 := a_fC_parts iC_nodes.toNatClampNeg (cl_lt rfl b_iC_nodes.1 (om_c3e6050f gc_128))
    rw [show fC_parts iC_nodes.toNatClampNeg = x_129 from ex_129.symm] at ux_129
    refine lv_iconst (v := 4) hx hb dX1_hasRoomForPart_18 (by decide) ?_
    refine lv_icmp_ge (tgt := 26) hx hb dX1_hasRoomForPart_19 (by decide) (fun c_130 => ?_) (fun c_130 => ?_)
    · skip
      have hG := hG.trans (if_pos c_130)
      have gc_130 := ti_le c_130 kc_4 rfl
      refine lv_iconst (v := 0) hx hb dX1_hasRoomForPart_26 (by decide) ?_
      exact wq_z (v := 0) hx hb hr rfl 0 ⟨⟨Or.inl rfl, (Or.inr (⟨rfl, trivial⟩))⟩, hG⟩ (fun t ht hW => Bw.to hP hD hK ht hW) hS dX1_hasRoomForPart_27 hlocks
    · skip
      have hG := hG.trans (if_neg c_130)
      have gc_130 := ti_nle c_130 kc_4 rfl
      refine lv_iconst (v := 1) hx hb dX1_hasRoomForPart_22 (by decide) ?_
      refine lv_goto (tgt := 27) hx hb dX1_hasRoomForPart_23 (by decide) ?_
      exact wq_z (v := 1) hx hb hr rfl 0 ⟨⟨Or.inr rfl, (Or.inl ⟨rfl, by first | omega | trivial⟩)⟩, hG⟩ (fun t ht hW => Bw.to hP hD hK ht hW) hS dX1_hasRoomForPart_27 hlocks
set_option maxHeartbeats 4000000 in
set_option maxRecDepth 100000 in
theorem tX1_beginNode (l : Launch) (dC : Nat → ClassId) (dI : Nat → Nat → Nat) (sz : Nat) (oC : Nat) (iC_nodes : Int32) (iC_words : Int32) (iC_chances : Int32) (iC_unsures : Int32) (iC_slips : Int32) (iC_throneNode : Int32) (iC_saidWorth : Int32) (iC_unit : Int32) (rC_kind : Nat) (fC_kind : Nat → Int32) (kC_kind : ClassId) (rC_parts : Nat) (fC_parts : Nat → Int32) (kC_parts : ClassId) (rC_partNodes : Nat) (rC_weights : Nat) (rC_weightSums : Nat) (fC_weightSums : Nat → Int32) (kC_weightSums : ClassId) (rC_toldWorths : Nat) (fC_toldWorths : Nat → Int32) (kC_toldWorths : ClassId) (rC_steps : Nat) (fC_steps : Nat → Int32) (kC_steps : ClassId) (rC_below : Nat) (fC_below : Nat → Int32) (kC_below : ClassId) (rC_above : Nat) (fC_above : Nat → Int32) (kC_above : ClassId) (rC_unsureWords : Nat) (rC_unsureWorths : Nat) (p0 : Int32) (b_iC_nodes : 0 ≤ iC_nodes.toInt ∧ iC_nodes.toInt ≤ 18) (b_iC_unsures : 0 ≤ iC_unsures.toInt ∧ iC_unsures.toInt ≤ 4) (b_iC_throneNode : (-1) ≤ iC_throneNode.toInt ∧ iC_throneNode.toInt ≤ 17) (a_fC_parts : ∀ j : Nat, j < 18 → 0 ≤ (fC_parts j).toInt ∧ (fC_parts j).toInt ≤ 4)  : Met l yX1_beginNode (Cond.code yX1_beginNode cX1_beginNode 2 none :: wG) ({ frames := 0, cells := 0, slots := 0, locals := 0 }) (va_Pc [.ref oC, .int p0] (Pw dC dI sz [(oc1 oC iC_nodes iC_words iC_chances iC_unsures iC_slips iC_throneNode iC_saidWorth iC_unit rC_kind rC_parts rC_partNodes rC_weights rC_weightSums rC_toldWorths rC_steps rC_below rC_above rC_unsureWords rC_unsureWorths), (arI rC_kind kC_kind 18 fC_kind), (arI rC_parts kC_parts 18 fC_parts), (arI rC_weightSums kC_weightSums 18 fC_weightSums), (arI rC_toldWorths kC_toldWorths 18 fC_toldWorths), (arI rC_steps kC_steps 18 fC_steps), (arI rC_below kC_below 18 fC_below), (arI rC_above kC_above 18 fC_above)] [(kC_kind, .int), (kC_parts, .int), (kC_weightSums, .int), (kC_toldWorths, .int), (kC_steps, .int), (kC_below, .int), (kC_above, .int)])) (va_Qv (fun (_ : Nat) => True) (fun (_ : Nat) (t : State) => ∃ (nfC_kind : Nat → Int32) (nfC_parts : Nat → Int32) (nfC_weightSums : Nat → Int32) (nfC_toldWorths : Nat → Int32) (nfC_steps : Nat → Int32) (nfC_below : Nat → Int32) (nfC_above : Nat → Int32), (∀ j : Nat, j < 18 → 0 ≤ (nfC_parts j).toInt ∧ (nfC_parts j).toInt ≤ 4) ∧ (PX1_beginNode iC_nodes fC_kind fC_parts fC_weightSums fC_toldWorths fC_steps fC_below fC_above p0 = (nfC_kind, nfC_parts, nfC_weightSums, nfC_toldWorths, nfC_steps, nfC_below, nfC_above)) ∧ Bw dC dI (va_A [(oc1 oC iC_nodes iC_words iC_chances iC_unsures iC_slips iC_throneNode iC_saidWorth iC_unit rC_kind rC_parts rC_partNodes rC_weights rC_weightSums rC_toldWorths rC_steps rC_below rC_above rC_unsureWords rC_unsureWorths), (arI rC_kind kC_kind 18 fC_kind), (arI rC_parts kC_parts 18 fC_parts), (arI rC_weightSums kC_weightSums 18 fC_weightSums), (arI rC_toldWorths kC_toldWorths 18 fC_toldWorths), (arI rC_steps kC_steps 18 fC_steps), (arI rC_below kC_below 18 fC_below), (arI rC_above kC_above 18 fC_above)] sz) [(oc1 oC iC_nodes iC_words iC_chances iC_unsures iC_slips iC_throneNode iC_saidWorth iC_unit rC_kind rC_parts rC_partNodes rC_weights rC_weightSums rC_toldWorths rC_steps rC_below rC_above rC_unsureWords rC_unsureWorths), (arI rC_kind kC_kind 18 nfC_kind), (arI rC_parts kC_parts 18 nfC_parts), (arI rC_weightSums kC_weightSums 18 nfC_weightSums), (arI rC_toldWorths kC_toldWorths 18 nfC_toldWorths), (arI rC_steps kC_steps 18 nfC_steps), (arI rC_below kC_below 18 nfC_below), (arI rC_above kC_above 18 nfC_above)] [(kC_kind, .int), (kC_parts, .int), (kC_weightSums, .int), (kC_toldWorths, .int), (kC_steps, .int), (kC_below, .int), (kC_above, .int)] t) (va_A [(oc1 oC iC_nodes iC_words iC_chances iC_unsures iC_slips iC_throneNode iC_saidWorth iC_unit rC_kind rC_parts rC_partNodes rC_weights rC_weightSums rC_toldWorths rC_steps rC_below rC_above rC_unsureWords rC_unsureWorths), (arI rC_kind kC_kind 18 fC_kind), (arI rC_parts kC_parts 18 fC_parts), (arI rC_weightSums kC_weightSums 18 fC_weightSums), (arI rC_toldWorths kC_toldWorths 18 fC_toldWorths), (arI rC_steps kC_steps 18 fC_steps), (arI rC_below kC_below 18 fC_below), (arI rC_above kC_above 18 fC_above)] sz)) 0 0 (va_A [(oc1 oC iC_nodes iC_words iC_chances iC_unsures iC_slips iC_throneNode iC_saidWorth iC_unit rC_kind rC_parts rC_partNodes rC_weights rC_weightSums rC_toldWorths rC_steps rC_below rC_above rC_unsureWords rC_unsureWorths), (arI rC_kind kC_kind 18 fC_kind), (arI rC_parts kC_parts 18 fC_parts), (arI rC_weightSums kC_weightSums 18 fC_weightSums), (arI rC_toldWorths kC_toldWorths 18 fC_toldWorths), (arI rC_steps kC_steps 18 fC_steps), (arI rC_below kC_below 18 fC_below), (arI rC_above kC_above 18 fC_above)] sz) := by
  refine Met.ofW (cc := cX1_beginNode) (maxL := 2) (ret := none) pnX1 rfl ?_
  intro p e s m args below meth c s₁ B hml hv
  obtain ⟨rfl, hsz, hP, hK, hD0, hE⟩ := hv
  have hx := B.exec
  have hb := B.bytes
  have hr := B.returns
  have hts : ∀ w ∈ wG, w.before ([.ref oC, .int p0] : List Value).toArray s = true := fun w h => atoms_spec (ws := Cond.code yX1_beginNode cX1_beginNode 2 none :: wG) B.pre w (List.mem_cons_of_mem _ h)
  have hown : s.vm.findClass RX1 = some m.cls := own_of B.named rfl
  have hlocks := B.notSynchronized
  subst hsz
  have hD := hD0.self (sz := s.heap.size)
  generalize hAe : va_A [(oc1 oC iC_nodes iC_words iC_chances iC_unsures iC_slips iC_throneNode iC_saidWorth iC_unit rC_kind rC_parts rC_partNodes rC_weights rC_weightSums rC_toldWorths rC_steps rC_below rC_above rC_unsureWords rC_unsureWorths), (arI rC_kind kC_kind 18 fC_kind), (arI rC_parts kC_parts 18 fC_parts), (arI rC_weightSums kC_weightSums 18 fC_weightSums), (arI rC_toldWorths kC_toldWorths 18 fC_toldWorths), (arI rC_steps kC_steps 18 fC_steps), (arI rC_below kC_below 18 fC_below), (arI rC_above kC_above 18 fC_above)] s.heap.size = A at hD hE ⊢
  have hA : ∀ q : Nat, s.heap.size ≤ q → A q := fun q h => by rw [← hAe]; exact Or.inr h
  have hS : va_S A s.heap s.heap [] := va_S.rf
  have hl := lv_entry ([.ref oC, .int p0]) (n := 2) (Nat.le_of_ble_eq_true rfl)
  rw [lg_entry_eq]
  generalize (lg_sl ([.ref oC, .int p0]) ++ List.replicate (2 - (lg_sl ([.ref oC, .int p0])).length) Slot.unset).toArray = ls at hl ⊢
  have hl : lv_has ls 2 [(0, .ref oC), (1, .int p0)] := hl
  have hG := PX1_beginNode_eq iC_nodes fC_kind fC_parts fC_weightSums fC_toldWorths fC_steps fC_below fC_above p0
  refine lv_aload_n hx hb dX1_beginNode_0 rfl (lv_at hl 0 rfl) ?_
  refine va_get (D := (dC, dI)) (ci := 1) (v := .int iC_nodes) (C := RX1) (T := TX1) (N := 19) hx hb hts inX1 hown hK hP 0 rfl rfl 0 (by decide) (hts _ wd_215) (fun _ h9 => h9) rfl dX1_beginNode_1 ?_
  refine lv_bipush (v := 18) hx hb dX1_beginNode_4 (by decide) ?_
  refine lv_icmp_ge (tgt := 92) hx hb dX1_beginNode_6 (by decide) (fun c_143 => ?_) (fun c_143 => ?_)
  · skip
    have hG := hG.trans (if_pos c_143)
    have gc_143 := ti_le c_143 kc_18 rfl
    exact wq_v hx hb hr 0 trivial (fun t ht hW => ⟨fC_kind, fC_parts, fC_weightSums, fC_toldWorths, fC_steps, fC_below, fC_above, a_fC_parts, hG, Bw.to hP hD hK ht hW⟩) hS dX1_beginNode_92 hlocks
  · skip
    have hG := hG.trans (if_neg c_143)
    have gc_143 := ti_nle c_143 kc_18 rfl
    refine lv_aload_n hx hb dX1_beginNode_9 rfl (lv_at hl 0 rfl) ?_
    refine va_get (D := (dC, dI)) (ci := 1) (v := .ref rC_kind) (C := RX1) (T := TX1) (N := 19) hx hb hts inX1 hown hK hP 0 rfl rfl 8 (by decide) (hts _ wd_54) (fun _ h9 => h9) rfl dX1_beginNode_10 ?_
    refine lv_aload_n hx hb dX1_beginNode_13 rfl (lv_at hl 0 rfl) ?_
    refine va_get (D := (dC, dI)) (ci := 1) (v := .int iC_nodes) (C := RX1) (T := TX1) (N := 19) hx hb hts inX1 hown hK hP 0 rfl rfl 0 (by decide) (hts _ wd_215) (fun _ h9 => h9) rfl dX1_beginNode_14 ?_
    refine lv_iload_n hx hb dX1_beginNode_17 rfl (lv_at hl 1 rfl) ?_
    refine va_iast hx hb hK hP hD hS 1 0 rfl rfl (ti_in rfl b_iC_nodes.1 (om_c3e6050f gc_143)) dX1_beginNode_18 (fun H locs hP hD hS => ?_)
    obtain ⟨f_145, ef_145⟩ : ∃ g : Nat → Int32, g = upd fC_kind iC_nodes.toNatClampNeg p0 := ⟨_, rfl⟩
    rw [← ef_145] at hP hD
    have hG := hG.trans (lt_eq ef_145)
    obtain ⟨hP, hD⟩ := wl2 (ws' := [(oc1 oC iC_nodes iC_words iC_chances iC_unsures iC_slips iC_throneNode iC_saidWorth iC_unit rC_kind rC_parts rC_partNodes rC_weights rC_weightSums rC_toldWorths rC_steps rC_below rC_above rC_unsureWords rC_unsureWorths), (arI rC_kind kC_kind 18 f_145), (arI rC_parts kC_parts 18 fC_parts), (arI rC_weightSums kC_weightSums 18 fC_weightSums), (arI rC_toldWorths kC_toldWorths 18 fC_toldWorths), (arI rC_steps kC_steps 18 fC_steps), (arI rC_below kC_below 18 fC_below), (arI rC_above kC_above 18 fC_above)]) hP hD rfl
    refine lv_aload_n hx hb dX1_beginNode_19 rfl (lv_at hl 0 rfl) ?_
    refine va_get (D := (dC, dI)) (ci := 1) (v := .ref rC_parts) (C := RX1) (T := TX1) (N := 19) hx hb hts inX1 hown hK hP 0 rfl rfl 9 (by decide) (hts _ wd_55) (fun _ h9 => h9) rfl dX1_beginNode_20 ?_
    refine lv_aload_n hx hb dX1_beginNode_23 rfl (lv_at hl 0 rfl) ?_
    refine va_get (D := (dC, dI)) (ci := 1) (v := .int iC_nodes) (C := RX1) (T := TX1) (N := 19) hx hb hts inX1 hown hK hP 0 rfl rfl 0 (by decide) (hts _ wd_215) (fun _ h9 => h9) rfl dX1_beginNode_24 ?_
    refine lv_iconst (v := 0) hx hb dX1_beginNode_27 (by decide) ?_
    refine va_iast hx hb hK hP hD hS 2 1 rfl rfl (ti_in rfl b_iC_nodes.1 (om_c3e6050f gc_143)) dX1_beginNode_28 (fun H locs hP hD hS => ?_)
    obtain ⟨f_147, ef_147⟩ : ∃ g : Nat → Int32, g = upd fC_parts iC_nodes.toNatClampNeg (0 : Int32) := ⟨_, rfl⟩
    rw [← ef_147] at hP hD
    have hG := hG.trans (lt_eq ef_147)
    obtain ⟨hP, hD⟩ := wl2 (ws' := [(oc1 oC iC_nodes iC_words iC_chances iC_unsures iC_slips iC_throneNode iC_saidWorth iC_unit rC_kind rC_parts rC_partNodes rC_weights rC_weightSums rC_toldWorths rC_steps rC_below rC_above rC_unsureWords rC_unsureWorths), (arI rC_kind kC_kind 18 f_145), (arI rC_parts kC_parts 18 f_147), (arI rC_weightSums kC_weightSums 18 fC_weightSums), (arI rC_toldWorths kC_toldWorths 18 fC_toldWorths), (arI rC_steps kC_steps 18 fC_steps), (arI rC_below kC_below 18 fC_below), (arI rC_above kC_above 18 fC_above)]) hP hD rfl
    have a_f_147 : ∀ j : Nat, j < 18 → 0 ≤ (f_147 j).toInt ∧ (f_147 j).toInt ≤ 4 := by rw [ef_147]; exact upd_in a_fC_parts (by decide)
    refine lv_aload_n hx hb dX1_beginNode_29 rfl (lv_at hl 0 rfl) ?_
    refine va_get (D := (dC, dI)) (ci := 1) (v := .ref rC_weightSums) (C := RX1) (T := TX1) (N := 19) hx hb hts inX1 hown hK hP 0 rfl rfl 12 (by decide) (hts _ wd_58) (fun _ h9 => h9) rfl dX1_beginNode_30 ?_
    refine lv_aload_n hx hb dX1_beginNode_33 rfl (lv_at hl 0 rfl) ?_
    refine va_get (D := (dC, dI)) (ci := 1) (v := .int iC_nodes) (C := RX1) (T := TX1) (N := 19) hx hb hts inX1 hown hK hP 0 rfl rfl 0 (by decide) (hts _ wd_215) (fun _ h9 => h9) rfl dX1_beginNode_34 ?_
    refine lv_iconst (v := 0) hx hb dX1_beginNode_37 (by decide) ?_
    refine va_iast hx hb hK hP hD hS 3 2 rfl rfl (ti_in rfl b_iC_nodes.1 (om_c3e6050f gc_143)) dX1_beginNode_38 (fun H locs hP hD hS => ?_)
    obtain ⟨f_149, ef_149⟩ : ∃ g : Nat → Int32, g = upd fC_weightSums iC_nodes.toNatClampNeg (0 : Int32) := ⟨_, rfl⟩
    rw [← ef_149] at hP hD
    have hG := hG.trans (lt_eq ef_149)
    obtain ⟨hP, hD⟩ := wl2 (ws' := [(oc1 oC iC_nodes iC_words iC_chances iC_unsures iC_slips iC_throneNode iC_saidWorth iC_unit rC_kind rC_parts rC_partNodes rC_weights rC_weightSums rC_toldWorths rC_steps rC_below rC_above rC_unsureWords rC_unsureWorths), (arI rC_kind kC_kind 18 f_145), (arI rC_parts kC_parts 18 f_147), (arI rC_weightSums kC_weightSums 18 f_149), (arI rC_toldWorths kC_toldWorths 18 fC_toldWorths), (arI rC_steps kC_steps 18 fC_steps), (arI rC_below kC_below 18 fC_below), (arI rC_above kC_above 18 fC_above)]) hP hD rfl
    refine lv_aload_n hx hb dX1_beginNode_39 rfl (lv_at hl 0 rfl) ?_
    refine va_get (D := (dC, dI)) (ci := 1) (v := .ref rC_toldWorths) (C := RX1) (T := TX1) (N := 19) hx hb hts inX1 hown hK hP 0 rfl rfl 13 (by decide) (hts _ wd_59) (fun _ h9 => h9) rfl dX1_beginNode_40 ?_
    refine lv_aload_n hx hb dX1_beginNode_43 rfl (lv_at hl 0 rfl) ?_
    refine va_get (D := (dC, dI)) (ci := 1) (v := .int iC_nodes) (C := RX1) (T := TX1) (N := 19) hx hb hts inX1 hown hK hP 0 rfl rfl 0 (by decide) (hts _ wd_215) (fun _ h9 => h9) rfl dX1_beginNode_44 ?_
    refine lv_iconst (v := 0) hx hb dX1_beginNode_47 (by decide) ?_
    refine va_iast hx hb hK hP hD hS 4 3 rfl rfl (ti_in rfl b_iC_nodes.1 (om_c3e6050f gc_143)) dX1_beginNode_48 (fun H locs hP hD hS => ?_)
    obtain ⟨f_151, ef_151⟩ : ∃ g : Nat → Int32, g = upd fC_toldWorths iC_nodes.toNatClampNeg (0 : Int32) := ⟨_, rfl⟩
    rw [← ef_151] at hP hD
    have hG := hG.trans (lt_eq ef_151)
    obtain ⟨hP, hD⟩ := wl2 (ws' := [(oc1 oC iC_nodes iC_words iC_chances iC_unsures iC_slips iC_throneNode iC_saidWorth iC_unit rC_kind rC_parts rC_partNodes rC_weights rC_weightSums rC_toldWorths rC_steps rC_below rC_above rC_unsureWords rC_unsureWorths), (arI rC_kind kC_kind 18 f_145), (arI rC_parts kC_parts 18 f_147), (arI rC_weightSums kC_weightSums 18 f_149), (arI rC_toldWorths kC_toldWorths 18 f_151), (arI rC_steps kC_steps 18 fC_steps), (arI rC_below kC_below 18 fC_below), (arI rC_above kC_above 18 fC_above)]) hP hD rfl
    refine lv_aload_n hx hb dX1_beginNode_49 rfl (lv_at hl 0 rfl) ?_
    refine va_get (D := (dC, dI)) (ci := 1) (v := .ref rC_steps) (C := RX1) (T := TX1) (N := 19) hx hb hts inX1 hown hK hP 0 rfl rfl 14 (by decide) (hts _ wd_60) (fun _ h9 => h9) rfl dX1_beginNode_50 ?_
    refine lv_aload_n hx hb dX1_beginNode_53 rfl (lv_at hl 0 rfl) ?_
    refine va_get (D := (dC, dI)) (ci := 1) (v := .int iC_nodes) (C := RX1) (T := TX1) (N := 19) hx hb hts inX1 hown hK hP 0 rfl rfl 0 (by decide) (hts _ wd_215) (fun _ h9 => h9) rfl dX1_beginNode_54 ?_
    refine lv_iconst (v := 0) hx hb dX1_beginNode_57 (by decide) ?_
    refine va_iast hx hb hK hP hD hS 5 4 rfl rfl (ti_in rfl b_iC_nodes.1 (om_c3e6050f gc_143)) dX1_beginNode_58 (fun H locs hP hD hS => ?_)
    obtain ⟨f_153, ef_153⟩ : ∃ g : Nat → Int32, g = upd fC_steps iC_nodes.toNatClampNeg (0 : Int32) := ⟨_, rfl⟩
    rw [← ef_153] at hP hD
    have hG := hG.trans (lt_eq ef_153)
    obtain ⟨hP, hD⟩ := wl2 (ws' := [(oc1 oC iC_nodes iC_words iC_chances iC_unsures iC_slips iC_throneNode iC_saidWorth iC_unit rC_kind rC_parts rC_partNodes rC_weights rC_weightSums rC_toldWorths rC_steps rC_below rC_above rC_unsureWords rC_unsureWorths), (arI rC_kind kC_kind 18 f_145), (arI rC_parts kC_parts 18 f_147), (arI rC_weightSums kC_weightSums 18 f_149), (arI rC_toldWorths kC_toldWorths 18 f_151), (arI rC_steps kC_steps 18 f_153), (arI rC_below kC_below 18 fC_below), (arI rC_above kC_above 18 fC_above)]) hP hD rfl
    refine lv_aload_n hx hb dX1_beginNode_59 rfl (lv_at hl 0 rfl) ?_
    refine va_get (D := (dC, dI)) (ci := 1) (v := .ref rC_below) (C := RX1) (T := TX1) (N := 19) hx hb hts inX1 hown hK hP 0 rfl rfl 15 (by decide) (hts _ wd_61) (fun _ h9 => h9) rfl dX1_beginNode_60 ?_
    refine lv_aload_n hx hb dX1_beginNode_63 rfl (lv_at hl 0 rfl) ?_
    refine va_get (D := (dC, dI)) (ci := 1) (v := .int iC_nodes) (C := RX1) (T := TX1) (N := 19) hx hb hts inX1 hown hK hP 0 rfl rfl 0 (by decide) (hts _ wd_215) (fun _ h9 => h9) rfl dX1_beginNode_64 ?_
    refine lv_iload_n hx hb dX1_beginNode_67 rfl (lv_at hl 1 rfl) ?_
    refine lv_if_ne (tgt := 80) hx hb dX1_beginNode_68 (by decide) (fun c_154 => ?_) (fun c_154 => ?_)
    · skip
      have hG := hG.trans (if_neg c_154)
      have gc_154 := ti_ne c_154 rfl kc_0
      refine lv_iconst (v := 0) hx hb dX1_beginNode_80 (by decide) ?_
      refine va_iast hx hb hK hP hD hS 6 5 rfl rfl (ti_in rfl b_iC_nodes.1 (om_c3e6050f gc_143)) dX1_beginNode_81 (fun H locs hP hD hS => ?_)
      obtain ⟨f_156, ef_156⟩ : ∃ g : Nat → Int32, g = upd fC_below iC_nodes.toNatClampNeg (0 : Int32) := ⟨_, rfl⟩
      rw [← ef_156] at hP hD
      have hG := hG.trans (lt_eq ef_156)
      obtain ⟨hP, hD⟩ := wl2 (ws' := [(oc1 oC iC_nodes iC_words iC_chances iC_unsures iC_slips iC_throneNode iC_saidWorth iC_unit rC_kind rC_parts rC_partNodes rC_weights rC_weightSums rC_toldWorths rC_steps rC_below rC_above rC_unsureWords rC_unsureWorths), (arI rC_kind kC_kind 18 f_145), (arI rC_parts kC_parts 18 f_147), (arI rC_weightSums kC_weightSums 18 f_149), (arI rC_toldWorths kC_toldWorths 18 f_151), (arI rC_steps kC_steps 18 f_153), (arI rC_below kC_below 18 f_156), (arI rC_above kC_above 18 fC_above)]) hP hD rfl
      refine lv_aload_n hx hb dX1_beginNode_82 rfl (lv_at hl 0 rfl) ?_
      refine va_get (D := (dC, dI)) (ci := 1) (v := .ref rC_above) (C := RX1) (T := TX1) (N := 19) hx hb hts inX1 hown hK hP 0 rfl rfl 16 (by decide) (hts _ wd_62) (fun _ h9 => h9) rfl dX1_beginNode_83 ?_
      refine lv_aload_n hx hb dX1_beginNode_86 rfl (lv_at hl 0 rfl) ?_
      refine va_get (D := (dC, dI)) (ci := 1) (v := .int iC_nodes) (C := RX1) (T := TX1) (N := 19) hx hb hts inX1 hown hK hP 0 rfl rfl 0 (by decide) (hts _ wd_215) (fun _ h9 => h9) rfl dX1_beginNode_87 ?_
      refine lv_iconst (v := 0) hx hb dX1_beginNode_90 (by decide) ?_
      refine va_iast hx hb hK hP hD hS 7 6 rfl rfl (ti_in rfl b_iC_nodes.1 (om_c3e6050f gc_143)) dX1_beginNode_91 (fun H locs hP hD hS => ?_)
      obtain ⟨f_158, ef_158⟩ : ∃ g : Nat → Int32, g = upd fC_above iC_nodes.toNatClampNeg (0 : Int32) := ⟨_, rfl⟩
      rw [← ef_158] at hP hD
      have hG := hG.trans (lt_eq ef_158)
      obtain ⟨hP, hD⟩ := wl2 (ws' := [(oc1 oC iC_nodes iC_words iC_chances iC_unsures iC_slips iC_throneNode iC_saidWorth iC_unit rC_kind rC_parts rC_partNodes rC_weights rC_weightSums rC_toldWorths rC_steps rC_below rC_above rC_unsureWords rC_unsureWorths), (arI rC_kind kC_kind 18 f_145), (arI rC_parts kC_parts 18 f_147), (arI rC_weightSums kC_weightSums 18 f_149), (arI rC_toldWorths kC_toldWorths 18 f_151), (arI rC_steps kC_steps 18 f_153), (arI rC_below kC_below 18 f_156), (arI rC_above kC_above 18 f_158)]) hP hD rfl
      exact wq_v hx hb hr 0 trivial (fun t ht hW => ⟨f_145, f_147, f_149, f_151, f_153, f_156, f_158, a_f_147, hG, Bw.to hP hD hK ht hW⟩) hS dX1_beginNode_92 hlocks
    · skip
      have hG := hG.trans (if_pos c_154)
      have gc_154 := ti_eq c_154 rfl kc_0
      refine lv_iconst (v := 1) hx hb dX1_beginNode_71 (by decide) ?_
      refine lv_aload_n hx hb dX1_beginNode_72 rfl (lv_at hl 0 rfl) ?_
      refine va_get (D := (dC, dI)) (ci := 1) (v := .int iC_nodes) (C := RX1) (T := TX1) (N := 19) hx hb hts inX1 hown hK hP 0 rfl rfl 0 (by decide) (hts _ wd_215) (fun _ h9 => h9) rfl dX1_beginNode_73 ?_
      refine lv_ishl hx hb dX1_beginNode_76 ?_
      refine lv_topi (fun x_159 ex_159 => ?_)
      have hG := hG.trans (lt_eq ex_159)
      refine lv_goto (tgt := 81) hx hb dX1_beginNode_77 (by decide) ?_
      refine va_iast hx hb hK hP hD hS 6 5 rfl rfl (ti_in rfl b_iC_nodes.1 (om_c3e6050f gc_143)) dX1_beginNode_81 (fun H locs hP hD hS => ?_)
      obtain ⟨f_161, ef_161⟩ : ∃ g : Nat → Int32, g = upd fC_below iC_nodes.toNatClampNeg x_159 := ⟨_, rfl⟩
      rw [← ef_161] at hP hD
      have hG := hG.trans (lt_eq ef_161)
      obtain ⟨hP, hD⟩ := wl2 (ws' := [(oc1 oC iC_nodes iC_words iC_chances iC_unsures iC_slips iC_throneNode iC_saidWorth iC_unit rC_kind rC_parts rC_partNodes rC_weights rC_weightSums rC_toldWorths rC_steps rC_below rC_above rC_unsureWords rC_unsureWorths), (arI rC_kind kC_kind 18 f_145), (arI rC_parts kC_parts 18 f_147), (arI rC_weightSums kC_weightSums 18 f_149), (arI rC_toldWorths kC_toldWorths 18 f_151), (arI rC_steps kC_steps 18 f_153), (arI rC_below kC_below 18 f_161), (arI rC_above kC_above 18 fC_above)]) hP hD rfl
      refine lv_aload_n hx hb dX1_beginNode_82 rfl (lv_at hl 0 rfl) ?_
      refine va_get (D := (dC, dI)) (ci := 1) (v := .ref rC_above) (C := RX1) (T := TX1) (N := 19) hx hb hts inX1 hown hK hP 0 rfl rfl 16 (by decide) (hts _ wd_62) (fun _ h9 => h9) rfl dX1_beginNode_83 ?_
      refine lv_aload_n hx hb dX1_beginNode_86 rfl (lv_at hl 0 rfl) ?_
      refine va_get (D := (dC, dI)) (ci := 1) (v := .int iC_nodes) (C := RX1) (T := TX1) (N := 19) hx hb hts inX1 hown hK hP 0 rfl rfl 0 (by decide) (hts _ wd_215) (fun _ h9 => h9) rfl dX1_beginNode_87 ?_
      refine lv_iconst (v := 0) hx hb dX1_beginNode_90 (by decide) ?_
      refine va_iast hx hb hK hP hD hS 7 6 rfl rfl (ti_in rfl b_iC_nodes.1 (om_c3e6050f gc_143)) dX1_beginNode_91 (fun H locs hP hD hS => ?_)
      obtain ⟨f_163, ef_163⟩ : ∃ g : Nat → Int32, g = upd fC_above iC_nodes.toNatClampNeg (0 : Int32) := ⟨_, rfl⟩
      rw [← ef_163] at hP hD
      have hG := hG.trans (lt_eq ef_163)
      obtain ⟨hP, hD⟩ := wl2 (ws' := [(oc1 oC iC_nodes iC_words iC_chances iC_unsures iC_slips iC_throneNode iC_saidWorth iC_unit rC_kind rC_parts rC_partNodes rC_weights rC_weightSums rC_toldWorths rC_steps rC_below rC_above rC_unsureWords rC_unsureWorths), (arI rC_kind kC_kind 18 f_145), (arI rC_parts kC_parts 18 f_147), (arI rC_weightSums kC_weightSums 18 f_149), (arI rC_toldWorths kC_toldWorths 18 f_151), (arI rC_steps kC_steps 18 f_153), (arI rC_below kC_below 18 f_161), (arI rC_above kC_above 18 f_163)]) hP hD rfl
      exact wq_v hx hb hr 0 trivial (fun t ht hW => ⟨f_145, f_147, f_149, f_151, f_153, f_161, f_163, a_f_147, hG, Bw.to hP hD hK ht hW⟩) hS dX1_beginNode_92 hlocks
set_option maxHeartbeats 4000000 in
set_option maxRecDepth 100000 in
theorem tX1_endNode (l : Launch) (dC : Nat → ClassId) (dI : Nat → Nat → Nat) (sz : Nat) (oC : Nat) (iC_nodes : Int32) (iC_words : Int32) (iC_chances : Int32) (iC_unsures : Int32) (iC_slips : Int32) (iC_throneNode : Int32) (iC_saidWorth : Int32) (iC_unit : Int32) (rC_kind : Nat) (fC_kind : Nat → Int32) (kC_kind : ClassId) (rC_parts : Nat) (rC_partNodes : Nat) (rC_weights : Nat) (rC_weightSums : Nat) (fC_weightSums : Nat → Int32) (kC_weightSums : ClassId) (rC_toldWorths : Nat) (fC_toldWorths : Nat → Int32) (kC_toldWorths : ClassId) (rC_steps : Nat) (rC_below : Nat) (rC_above : Nat) (rC_unsureWords : Nat) (rC_unsureWorths : Nat) (p0 : Int32) (b_iC_nodes : 0 ≤ iC_nodes.toInt ∧ iC_nodes.toInt ≤ 18) (b_iC_unsures : 0 ≤ iC_unsures.toInt ∧ iC_unsures.toInt ≤ 4) (b_iC_throneNode : (-1) ≤ iC_throneNode.toInt ∧ iC_throneNode.toInt ≤ 17)  : Met l yX1_endNode (Cond.code yX1_endNode cX1_endNode 2 none :: wG) ({ frames := 0, cells := 0, slots := 0, locals := 0 }) (va_Pc [.ref oC, .int p0] (Pw dC dI sz [(oc1 oC iC_nodes iC_words iC_chances iC_unsures iC_slips iC_throneNode iC_saidWorth iC_unit rC_kind rC_parts rC_partNodes rC_weights rC_weightSums rC_toldWorths rC_steps rC_below rC_above rC_unsureWords rC_unsureWorths), (arI rC_kind kC_kind 18 fC_kind), (arI rC_weightSums kC_weightSums 18 fC_weightSums), (arI rC_toldWorths kC_toldWorths 18 fC_toldWorths)] [(kC_kind, .int), (kC_weightSums, .int), (kC_toldWorths, .int)])) (va_Qv (fun (_ : Nat) => True) (fun (_ : Nat) (t : State) => ∃ (niC_nodes : Int32) (niC_words : Int32) (niC_chances : Int32) (niC_unit : Int32) (nfC_toldWorths : Nat → Int32), (0 ≤ niC_nodes.toInt ∧ niC_nodes.toInt ≤ 18) ∧ (PX1_endNode iC_nodes iC_words iC_chances iC_unit fC_kind fC_weightSums fC_toldWorths p0 = (niC_nodes, niC_words, niC_chances, niC_unit, nfC_toldWorths)) ∧ Bw dC dI (va_A [(oc1 oC iC_nodes iC_words iC_chances iC_unsures iC_slips iC_throneNode iC_saidWorth iC_unit rC_kind rC_parts rC_partNodes rC_weights rC_weightSums rC_toldWorths rC_steps rC_below rC_above rC_unsureWords rC_unsureWorths), (arI rC_kind kC_kind 18 fC_kind), (arI rC_weightSums kC_weightSums 18 fC_weightSums), (arI rC_toldWorths kC_toldWorths 18 fC_toldWorths)] sz) [(oc1 oC niC_nodes niC_words niC_chances iC_unsures iC_slips iC_throneNode iC_saidWorth niC_unit rC_kind rC_parts rC_partNodes rC_weights rC_weightSums rC_toldWorths rC_steps rC_below rC_above rC_unsureWords rC_unsureWorths), (arI rC_kind kC_kind 18 fC_kind), (arI rC_weightSums kC_weightSums 18 fC_weightSums), (arI rC_toldWorths kC_toldWorths 18 nfC_toldWorths)] [(kC_kind, .int), (kC_weightSums, .int), (kC_toldWorths, .int)] t) (va_A [(oc1 oC iC_nodes iC_words iC_chances iC_unsures iC_slips iC_throneNode iC_saidWorth iC_unit rC_kind rC_parts rC_partNodes rC_weights rC_weightSums rC_toldWorths rC_steps rC_below rC_above rC_unsureWords rC_unsureWorths), (arI rC_kind kC_kind 18 fC_kind), (arI rC_weightSums kC_weightSums 18 fC_weightSums), (arI rC_toldWorths kC_toldWorths 18 fC_toldWorths)] sz)) 0 0 (va_A [(oc1 oC iC_nodes iC_words iC_chances iC_unsures iC_slips iC_throneNode iC_saidWorth iC_unit rC_kind rC_parts rC_partNodes rC_weights rC_weightSums rC_toldWorths rC_steps rC_below rC_above rC_unsureWords rC_unsureWorths), (arI rC_kind kC_kind 18 fC_kind), (arI rC_weightSums kC_weightSums 18 fC_weightSums), (arI rC_toldWorths kC_toldWorths 18 fC_toldWorths)] sz) := by
  refine Met.ofW (cc := cX1_endNode) (maxL := 2) (ret := none) pnX1 rfl ?_
  intro p e s m args below meth c s₁ B hml hv
  obtain ⟨rfl, hsz, hP, hK, hD0, hE⟩ := hv
  have hx := B.exec
  have hb := B.bytes
  have hr := B.returns
  have hts : ∀ w ∈ wG, w.before ([.ref oC, .int p0] : List Value).toArray s = true := fun w h => atoms_spec (ws := Cond.code yX1_endNode cX1_endNode 2 none :: wG) B.pre w (List.mem_cons_of_mem _ h)
  have hown : s.vm.findClass RX1 = some m.cls := own_of B.named rfl
  have hlocks := B.notSynchronized
  subst hsz
  have hD := hD0.self (sz := s.heap.size)
  generalize hAe : va_A [(oc1 oC iC_nodes iC_words iC_chances iC_unsures iC_slips iC_throneNode iC_saidWorth iC_unit rC_kind rC_parts rC_partNodes rC_weights rC_weightSums rC_toldWorths rC_steps rC_below rC_above rC_unsureWords rC_unsureWorths), (arI rC_kind kC_kind 18 fC_kind), (arI rC_weightSums kC_weightSums 18 fC_weightSums), (arI rC_toldWorths kC_toldWorths 18 fC_toldWorths)] s.heap.size = A at hD hE ⊢
  have hA : ∀ q : Nat, s.heap.size ≤ q → A q := fun q h => by rw [← hAe]; exact Or.inr h
  have hS : va_S A s.heap s.heap [] := va_S.rf
  have hl := lv_entry ([.ref oC, .int p0]) (n := 2) (Nat.le_of_ble_eq_true rfl)
  rw [lg_entry_eq]
  generalize (lg_sl ([.ref oC, .int p0]) ++ List.replicate (2 - (lg_sl ([.ref oC, .int p0])).length) Slot.unset).toArray = ls at hl ⊢
  have hl : lv_has ls 2 [(0, .ref oC), (1, .int p0)] := hl
  have hG := PX1_endNode_eq iC_nodes iC_words iC_chances iC_unit fC_kind fC_weightSums fC_toldWorths p0
  refine lv_aload_n hx hb dX1_endNode_0 rfl (lv_at hl 0 rfl) ?_
  refine va_get (D := (dC, dI)) (ci := 1) (v := .int iC_nodes) (C := RX1) (T := TX1) (N := 19) hx hb hts inX1 hown hK hP 0 rfl rfl 0 (by decide) (hts _ wd_215) (fun _ h9 => h9) rfl dX1_endNode_1 ?_
  refine lv_bipush (v := 18) hx hb dX1_endNode_4 (by decide) ?_
  refine lv_icmp_ge (tgt := 92) hx hb dX1_endNode_6 (by decide) (fun c_179 => ?_) (fun c_179 => ?_)
  · skip
    have hG := hG.trans (if_pos c_179)
    have gc_179 := ti_le c_179 kc_18 rfl
    exact wq_v hx hb hr 0 trivial (fun t ht hW => ⟨iC_nodes, iC_words, iC_chances, iC_unit, fC_toldWorths, b_iC_nodes, hG, Bw.to hP hD hK ht hW⟩) hS dX1_endNode_92 hlocks
  · skip
    have hG := hG.trans (if_neg c_179)
    have gc_179 := ti_nle c_179 kc_18 rfl
    refine lv_aload_n hx hb dX1_endNode_9 rfl (lv_at hl 0 rfl) ?_
    refine va_get (D := (dC, dI)) (ci := 1) (v := .ref rC_toldWorths) (C := RX1) (T := TX1) (N := 19) hx hb hts inX1 hown hK hP 0 rfl rfl 13 (by decide) (hts _ wd_59) (fun _ h9 => h9) rfl dX1_endNode_10 ?_
    refine lv_aload_n hx hb dX1_endNode_13 rfl (lv_at hl 0 rfl) ?_
    refine va_get (D := (dC, dI)) (ci := 1) (v := .int iC_nodes) (C := RX1) (T := TX1) (N := 19) hx hb hts inX1 hown hK hP 0 rfl rfl 0 (by decide) (hts _ wd_215) (fun _ h9 => h9) rfl dX1_endNode_14 ?_
    refine lv_iload_n hx hb dX1_endNode_17 rfl (lv_at hl 1 rfl) ?_
    refine va_iast hx hb hK hP hD hS 3 2 rfl rfl (ti_in rfl b_iC_nodes.1 (om_c3e6050f gc_179)) dX1_endNode_18 (fun H locs hP hD hS => ?_)
    obtain ⟨f_181, ef_181⟩ : ∃ g : Nat → Int32, g = upd fC_toldWorths iC_nodes.toNatClampNeg p0 := ⟨_, rfl⟩
    rw [← ef_181] at hP hD
    have hG := hG.trans (lt_eq ef_181)
    obtain ⟨hP, hD⟩ := wl2 (ws' := [(oc1 oC iC_nodes iC_words iC_chances iC_unsures iC_slips iC_throneNode iC_saidWorth iC_unit rC_kind rC_parts rC_partNodes rC_weights rC_weightSums rC_toldWorths rC_steps rC_below rC_above rC_unsureWords rC_unsureWorths), (arI rC_kind kC_kind 18 fC_kind), (arI rC_weightSums kC_weightSums 18 fC_weightSums), (arI rC_toldWorths kC_toldWorths 18 f_181)]) hP hD rfl
    refine lv_aload_n hx hb dX1_endNode_19 rfl (lv_at hl 0 rfl) ?_
    refine va_get (D := (dC, dI)) (ci := 1) (v := .ref rC_kind) (C := RX1) (T := TX1) (N := 19) hx hb hts inX1 hown hK hP 0 rfl rfl 8 (by decide) (hts _ wd_54) (fun _ h9 => h9) rfl dX1_endNode_20 ?_
    refine lv_aload_n hx hb dX1_endNode_23 rfl (lv_at hl 0 rfl) ?_
    refine va_get (D := (dC, dI)) (ci := 1) (v := .int iC_nodes) (C := RX1) (T := TX1) (N := 19) hx hb hts inX1 hown hK hP 0 rfl rfl 0 (by decide) (hts _ wd_215) (fun _ h9 => h9) rfl dX1_endNode_24 ?_
    refine va_iald hx hb hK hP 1 0 rfl rfl (ti_in rfl b_iC_nodes.1 (om_c3e6050f gc_179)) dX1_endNode_27 ?_
    refine lv_topi (fun x_182 ex_182 => ?_)
    have hG := hG.trans (lt_eq ex_182)
    have kx_182 : (fC_kind iC_nodes.toNatClampNeg).toInt = x_182.toInt := by rw [ex_182]
    refine lv_if_ne (tgt := 41) hx hb dX1_endNode_28 (by decide) (fun c_183 => ?_) (fun c_183 => ?_)
    · skip
      have hG := hG.trans (if_neg c_183)
      have gc_183 := ti_ne c_183 rfl kc_0
      refine lv_aload_n hx hb dX1_endNode_41 rfl (lv_at hl 0 rfl) ?_
      refine va_get (D := (dC, dI)) (ci := 1) (v := .ref rC_kind) (C := RX1) (T := TX1) (N := 19) hx hb hts inX1 hown hK hP 0 rfl rfl 8 (by decide) (hts _ wd_54) (fun _ h9 => h9) rfl dX1_endNode_42 ?_
      refine lv_aload_n hx hb dX1_endNode_45 rfl (lv_at hl 0 rfl) ?_
      refine va_get (D := (dC, dI)) (ci := 1) (v := .int iC_nodes) (C := RX1) (T := TX1) (N := 19) hx hb hts inX1 hown hK hP 0 rfl rfl 0 (by decide) (hts _ wd_215) (fun _ h9 => h9) rfl dX1_endNode_46 ?_
      refine va_iald hx hb hK hP 1 0 rfl rfl (ti_in rfl b_iC_nodes.1 (om_c3e6050f gc_179)) dX1_endNode_49 ?_
      refine lv_topi (fun x_184 ex_184 => ?_)
      have hG := hG.trans (lt_eq ex_184)
      have kx_184 : (fC_kind iC_nodes.toNatClampNeg).toInt = x_184.toInt := by rw [ex_184]
      refine lv_iconst (v := 3) hx hb dX1_endNode_50 (by decide) ?_
      refine lv_icmp_ne (tgt := 82) hx hb dX1_endNode_51 (by decide) (fun c_185 => ?_) (fun c_185 => ?_)
      · skip
        have hG := hG.trans (if_neg c_185)
        have gc_185 := ti_ne c_185 rfl kc_3
        refine lv_aload_n hx hb dX1_endNode_82 rfl (lv_at hl 0 rfl) ?_
        refine lv_dup hx hb dX1_endNode_83 rfl ?_
        refine va_get (D := (dC, dI)) (ci := 1) (v := .int iC_nodes) (C := RX1) (T := TX1) (N := 19) hx hb hts inX1 hown hK hP 0 rfl rfl 0 (by decide) (hts _ wd_215) (fun _ h9 => h9) rfl dX1_endNode_84 ?_
        refine lv_iconst (v := 1) hx hb dX1_endNode_87 (by decide) ?_
        refine lv_iadd hx hb dX1_endNode_88 ?_
        refine lv_topi (fun x_186 ex_186 => ?_)
        have hG := hG.trans (lt_eq ex_186)
        have vx_186 : x_186.toInt = iC_nodes.toInt + 1 := ti_add ex_186 rfl kc_1 (om_4e4fce7e b_iC_nodes.1) (om_9d611bdb b_iC_nodes.2)
        refine va_put (D := (dC, dI)) (ci := 1) (v := .int x_186) (ty := .int) (C := RX1) (T := TX1) (N := 19) hx hb hts inX1 tyX1 tyX1_ok nmX1 hown hK hP hD hS 0 rfl rfl 0 (by decide) (hts _ wd_215) (fun _ h9 => h9) rfl (by decide +kernel) rfl rfl (Nat.le_of_ble_eq_true rfl) dX1_endNode_89 (fun H locs hP hD hS => ?_)
        obtain ⟨hP, hD⟩ := wl2 (ws' := [(oc1 oC x_186 iC_words iC_chances iC_unsures iC_slips iC_throneNode iC_saidWorth iC_unit rC_kind rC_parts rC_partNodes rC_weights rC_weightSums rC_toldWorths rC_steps rC_below rC_above rC_unsureWords rC_unsureWorths), (arI rC_kind kC_kind 18 fC_kind), (arI rC_weightSums kC_weightSums 18 fC_weightSums), (arI rC_toldWorths kC_toldWorths 18 f_181)]) hP hD rfl
        exact wq_v hx hb hr 0 trivial (fun t ht hW => ⟨x_186, iC_words, iC_chances, iC_unit, f_181, ⟨(om_83b90de5 b_iC_nodes.1 vx_186), (om_497b4f92 gc_179 vx_186)⟩, hG, Bw.to hP hD hK ht hW⟩) hS dX1_endNode_92 hlocks
      · skip
        have hG := hG.trans (if_pos c_185)
        have gc_185 := ti_eq c_185 rfl kc_3
        refine lv_aload_n hx hb dX1_endNode_54 rfl (lv_at hl 0 rfl) ?_
        refine lv_dup hx hb dX1_endNode_55 rfl ?_
        refine va_get (D := (dC, dI)) (ci := 1) (v := .int iC_chances) (C := RX1) (T := TX1) (N := 19) hx hb hts inX1 hown hK hP 0 rfl rfl 2 (by decide) (hts _ wd_217) (fun _ h9 => h9) rfl dX1_endNode_56 ?_
        refine lv_iconst (v := 1) hx hb dX1_endNode_59 (by decide) ?_
        refine lv_iadd hx hb dX1_endNode_60 ?_
        refine lv_topi (fun x_187 ex_187 => ?_)
        have hG := hG.trans (lt_eq ex_187)
        refine va_put (D := (dC, dI)) (ci := 1) (v := .int x_187) (ty := .int) (C := RX1) (T := TX1) (N := 19) hx hb hts inX1 tyX1 tyX1_ok nmX1 hown hK hP hD hS 0 rfl rfl 2 (by decide) (hts _ wd_217) (fun _ h9 => h9) rfl (by decide +kernel) rfl rfl (Nat.le_of_ble_eq_true rfl) dX1_endNode_61 (fun H locs hP hD hS => ?_)
        obtain ⟨hP, hD⟩ := wl2 (ws' := [(oc1 oC iC_nodes iC_words x_187 iC_unsures iC_slips iC_throneNode iC_saidWorth iC_unit rC_kind rC_parts rC_partNodes rC_weights rC_weightSums rC_toldWorths rC_steps rC_below rC_above rC_unsureWords rC_unsureWorths), (arI rC_kind kC_kind 18 fC_kind), (arI rC_weightSums kC_weightSums 18 fC_weightSums), (arI rC_toldWorths kC_toldWorths 18 f_181)]) hP hD rfl
        refine lv_aload_n hx hb dX1_endNode_64 rfl (lv_at hl 0 rfl) ?_
        refine lv_dup hx hb dX1_endNode_65 rfl ?_
        refine va_get (D := (dC, dI)) (ci := 1) (v := .int iC_unit) (C := RX1) (T := TX1) (N := 19) hx hb hts inX1 hown hK hP 0 rfl rfl 7 (by decide) (hts _ wd_67) (fun _ h9 => h9) rfl dX1_endNode_66 ?_
        refine lv_aload_n hx hb dX1_endNode_69 rfl (lv_at hl 0 rfl) ?_
        refine va_get (D := (dC, dI)) (ci := 1) (v := .ref rC_weightSums) (C := RX1) (T := TX1) (N := 19) hx hb hts inX1 hown hK hP 0 rfl rfl 12 (by decide) (hts _ wd_58) (fun _ h9 => h9) rfl dX1_endNode_70 ?_
        refine lv_aload_n hx hb dX1_endNode_73 rfl (lv_at hl 0 rfl) ?_
        refine va_get (D := (dC, dI)) (ci := 1) (v := .int iC_nodes) (C := RX1) (T := TX1) (N := 19) hx hb hts inX1 hown hK hP 0 rfl rfl 0 (by decide) (hts _ wd_215) (fun _ h9 => h9) rfl dX1_endNode_74 ?_
        refine va_iald hx hb hK hP 2 1 rfl rfl (ti_in rfl b_iC_nodes.1 (om_c3e6050f gc_179)) dX1_endNode_77 ?_
        refine lv_topi (fun x_188 ex_188 => ?_)
        have hG := hG.trans (lt_eq ex_188)
        have kx_188 : (fC_weightSums iC_nodes.toNatClampNeg).toInt = x_188.toInt := by rw [ex_188]
        refine lv_imul hx hb dX1_endNode_78 ?_
        refine lv_topi (fun x_189 ex_189 => ?_)
        have hG := hG.trans (lt_eq ex_189)
        refine va_put (D := (dC, dI)) (ci := 1) (v := .int x_189) (ty := .int) (C := RX1) (T := TX1) (N := 19) hx hb hts inX1 tyX1 tyX1_ok nmX1 hown hK hP hD hS 0 rfl rfl 7 (by decide) (hts _ wd_67) (fun _ h9 => h9) rfl (by decide +kernel) rfl rfl (Nat.le_of_ble_eq_true rfl) dX1_endNode_79 (fun H locs hP hD hS => ?_)
        obtain ⟨hP, hD⟩ := wl2 (ws' := [(oc1 oC iC_nodes iC_words x_187 iC_unsures iC_slips iC_throneNode iC_saidWorth x_189 rC_kind rC_parts rC_partNodes rC_weights rC_weightSums rC_toldWorths rC_steps rC_below rC_above rC_unsureWords rC_unsureWorths), (arI rC_kind kC_kind 18 fC_kind), (arI rC_weightSums kC_weightSums 18 fC_weightSums), (arI rC_toldWorths kC_toldWorths 18 f_181)]) hP hD rfl
        refine lv_aload_n hx hb dX1_endNode_82 rfl (lv_at hl 0 rfl) ?_
        refine lv_dup hx hb dX1_endNode_83 rfl ?_
        refine va_get (D := (dC, dI)) (ci := 1) (v := .int iC_nodes) (C := RX1) (T := TX1) (N := 19) hx hb hts inX1 hown hK hP 0 rfl rfl 0 (by decide) (hts _ wd_215) (fun _ h9 => h9) rfl dX1_endNode_84 ?_
        refine lv_iconst (v := 1) hx hb dX1_endNode_87 (by decide) ?_
        refine lv_iadd hx hb dX1_endNode_88 ?_
        refine lv_topi (fun x_190 ex_190 => ?_)
        have hG := hG.trans (lt_eq ex_190)
        have vx_190 : x_190.toInt = iC_nodes.toInt + 1 := ti_add ex_190 rfl kc_1 (om_4e4fce7e b_iC_nodes.1) (om_9d611bdb b_iC_nodes.2)
        refine va_put (D := (dC, dI)) (ci := 1) (v := .int x_190) (ty := .int) (C := RX1) (T := TX1) (N := 19) hx hb hts inX1 tyX1 tyX1_ok nmX1 hown hK hP hD hS 0 rfl rfl 0 (by decide) (hts _ wd_215) (fun _ h9 => h9) rfl (by decide +kernel) rfl rfl (Nat.le_of_ble_eq_true rfl) dX1_endNode_89 (fun H locs hP hD hS => ?_)
        obtain ⟨hP, hD⟩ := wl2 (ws' := [(oc1 oC x_190 iC_words x_187 iC_unsures iC_slips iC_throneNode iC_saidWorth x_189 rC_kind rC_parts rC_partNodes rC_weights rC_weightSums rC_toldWorths rC_steps rC_below rC_above rC_unsureWords rC_unsureWorths), (arI rC_kind kC_kind 18 fC_kind), (arI rC_weightSums kC_weightSums 18 fC_weightSums), (arI rC_toldWorths kC_toldWorths 18 f_181)]) hP hD rfl
        exact wq_v hx hb hr 0 trivial (fun t ht hW => ⟨x_190, iC_words, x_187, x_189, f_181, ⟨(om_83b90de5 b_iC_nodes.1 vx_190), (om_497b4f92 gc_179 vx_190)⟩, hG, Bw.to hP hD hK ht hW⟩) hS dX1_endNode_92 hlocks
    · skip
      have hG := hG.trans (if_pos c_183)
      have gc_183 := ti_eq c_183 rfl kc_0
      refine lv_aload_n hx hb dX1_endNode_31 rfl (lv_at hl 0 rfl) ?_
      refine lv_dup hx hb dX1_endNode_32 rfl ?_
      refine va_get (D := (dC, dI)) (ci := 1) (v := .int iC_words) (C := RX1) (T := TX1) (N := 19) hx hb hts inX1 hown hK hP 0 rfl rfl 1 (by decide) (hts _ wd_216) (fun _ h9 => h9) rfl dX1_endNode_33 ?_
      refine lv_iconst (v := 1) hx hb dX1_endNode_36 (by decide) ?_
      refine lv_iadd hx hb dX1_endNode_37 ?_
      refine lv_topi (fun x_191 ex_191 => ?_)
      have hG := hG.trans (lt_eq ex_191)
      refine va_put (D := (dC, dI)) (ci := 1) (v := .int x_191) (ty := .int) (C := RX1) (T := TX1) (N := 19) hx hb hts inX1 tyX1 tyX1_ok nmX1 hown hK hP hD hS 0 rfl rfl 1 (by decide) (hts _ wd_216) (fun _ h9 => h9) rfl (by decide +kernel) rfl rfl (Nat.le_of_ble_eq_true rfl) dX1_endNode_38 (fun H locs hP hD hS => ?_)
      obtain ⟨hP, hD⟩ := wl2 (ws' := [(oc1 oC iC_nodes x_191 iC_chances iC_unsures iC_slips iC_throneNode iC_saidWorth iC_unit rC_kind rC_parts rC_partNodes rC_weights rC_weightSums rC_toldWorths rC_steps rC_below rC_above rC_unsureWords rC_unsureWorths), (arI rC_kind kC_kind 18 fC_kind), (arI rC_weightSums kC_weightSums 18 fC_weightSums), (arI rC_toldWorths kC_toldWorths 18 f_181)]) hP hD rfl
      refine lv_aload_n hx hb dX1_endNode_41 rfl (lv_at hl 0 rfl) ?_
      refine va_get (D := (dC, dI)) (ci := 1) (v := .ref rC_kind) (C := RX1) (T := TX1) (N := 19) hx hb hts inX1 hown hK hP 0 rfl rfl 8 (by decide) (hts _ wd_54) (fun _ h9 => h9) rfl dX1_endNode_42 ?_
      refine lv_aload_n hx hb dX1_endNode_45 rfl (lv_at hl 0 rfl) ?_
      refine va_get (D := (dC, dI)) (ci := 1) (v := .int iC_nodes) (C := RX1) (T := TX1) (N := 19) hx hb hts inX1 hown hK hP 0 rfl rfl 0 (by decide) (hts _ wd_215) (fun _ h9 => h9) rfl dX1_endNode_46 ?_
      refine va_iald hx hb hK hP 1 0 rfl rfl (ti_in rfl b_iC_nodes.1 (om_c3e6050f gc_179)) dX1_endNode_49 ?_
      refine lv_topi (fun x_192 ex_192 => ?_)
      have hG := hG.trans (lt_eq ex_192)
      have kx_192 : (fC_kind iC_nodes.toNatClampNeg).toInt = x_192.toInt := by rw [ex_192]
      refine lv_iconst (v := 3) hx hb dX1_endNode_50 (by decide) ?_
      refine lv_icmp_ne (tgt := 82) hx hb dX1_endNode_51 (by decide) (fun c_193 => ?_) (fun c_193 => ?_)
      · skip
        have hG := hG.trans (if_neg c_193)
        have gc_193 := ti_ne c_193 rfl kc_3
        refine lv_aload_n hx hb dX1_endNode_82 rfl (lv_at hl 0 rfl) ?_
        refine lv_dup hx hb dX1_endNode_83 rfl ?_
        refine va_get (D := (dC, dI)) (ci := 1) (v := .int iC_nodes) (C := RX1) (T := TX1) (N := 19) hx hb hts inX1 hown hK hP 0 rfl rfl 0 (by decide) (hts _ wd_215) (fun _ h9 => h9) rfl dX1_endNode_84 ?_
        refine lv_iconst (v := 1) hx hb dX1_endNode_87 (by decide) ?_
        refine lv_iadd hx hb dX1_endNode_88 ?_
        refine lv_topi (fun x_194 ex_194 => ?_)
        have hG := hG.trans (lt_eq ex_194)
        have vx_194 : x_194.toInt = iC_nodes.toInt + 1 := ti_add ex_194 rfl kc_1 (om_4e4fce7e b_iC_nodes.1) (om_9d611bdb b_iC_nodes.2)
        refine va_put (D := (dC, dI)) (ci := 1) (v := .int x_194) (ty := .int) (C := RX1) (T := TX1) (N := 19) hx hb hts inX1 tyX1 tyX1_ok nmX1 hown hK hP hD hS 0 rfl rfl 0 (by decide) (hts _ wd_215) (fun _ h9 => h9) rfl (by decide +kernel) rfl rfl (Nat.le_of_ble_eq_true rfl) dX1_endNode_89 (fun H locs hP hD hS => ?_)
        obtain ⟨hP, hD⟩ := wl2 (ws' := [(oc1 oC x_194 x_191 iC_chances iC_unsures iC_slips iC_throneNode iC_saidWorth iC_unit rC_kind rC_parts rC_partNodes rC_weights rC_weightSums rC_toldWorths rC_steps rC_below rC_above rC_unsureWords rC_unsureWorths), (arI rC_kind kC_kind 18 fC_kind), (arI rC_weightSums kC_weightSums 18 fC_weightSums), (arI rC_toldWorths kC_toldWorths 18 f_181)]) hP hD rfl
        exact wq_v hx hb hr 0 trivial (fun t ht hW => ⟨x_194, x_191, iC_chances, iC_unit, f_181, ⟨(om_83b90de5 b_iC_nodes.1 vx_194), (om_497b4f92 gc_179 vx_194)⟩, hG, Bw.to hP hD hK ht hW⟩) hS dX1_endNode_92 hlocks
      · skip
        have hG := hG.trans (if_pos c_193)
        have gc_193 := ti_eq c_193 rfl kc_3
        exact ((om_ac0e1d60 kx_182 gc_183 kx_192 gc_193)).elim
set_option maxHeartbeats 4000000 in
set_option maxRecDepth 100000 in
theorem tX1_addUnsure (l : Launch) (dC : Nat → ClassId) (dI : Nat → Nat → Nat) (sz : Nat) (oC : Nat) (iC_nodes : Int32) (iC_words : Int32) (iC_chances : Int32) (iC_unsures : Int32) (iC_slips : Int32) (iC_throneNode : Int32) (iC_saidWorth : Int32) (iC_unit : Int32) (rC_kind : Nat) (rC_parts : Nat) (rC_partNodes : Nat) (rC_weights : Nat) (rC_weightSums : Nat) (rC_toldWorths : Nat) (rC_steps : Nat) (rC_below : Nat) (rC_above : Nat) (rC_unsureWords : Nat) (fC_unsureWords : Nat → Int32) (kC_unsureWords : ClassId) (rC_unsureWorths : Nat) (fC_unsureWorths : Nat → Int32) (kC_unsureWorths : ClassId) (p0 : Int32) (p1 : Int32) (b_iC_nodes : 0 ≤ iC_nodes.toInt ∧ iC_nodes.toInt ≤ 18) (b_iC_unsures : 0 ≤ iC_unsures.toInt ∧ iC_unsures.toInt ≤ 4) (b_iC_throneNode : (-1) ≤ iC_throneNode.toInt ∧ iC_throneNode.toInt ≤ 17) (a_fC_unsureWords : ∀ j : Nat, j < 4 → 0 ≤ (fC_unsureWords j).toInt ∧ (fC_unsureWords j).toInt ≤ 17) (hp0 : 0 ≤ p0.toInt ∧ p0.toInt ≤ 17) : Met l yX1_addUnsure (Cond.code yX1_addUnsure cX1_addUnsure 3 none :: wG) ({ frames := 0, cells := 0, slots := 0, locals := 0 }) (va_Pc [.ref oC, .int p0, .int p1] (Pw dC dI sz [(oc1 oC iC_nodes iC_words iC_chances iC_unsures iC_slips iC_throneNode iC_saidWorth iC_unit rC_kind rC_parts rC_partNodes rC_weights rC_weightSums rC_toldWorths rC_steps rC_below rC_above rC_unsureWords rC_unsureWorths), (arI rC_unsureWords kC_unsureWords 4 fC_unsureWords), (arI rC_unsureWorths kC_unsureWorths 4 fC_unsureWorths)] [(kC_unsureWords, .int), (kC_unsureWorths, .int)])) (va_Qv (fun (_ : Nat) => True) (fun (_ : Nat) (t : State) => ∃ (niC_unsures : Int32) (nfC_unsureWords : Nat → Int32) (nfC_unsureWorths : Nat → Int32), (0 ≤ niC_unsures.toInt ∧ niC_unsures.toInt ≤ 4) ∧ (∀ j : Nat, j < 4 → 0 ≤ (nfC_unsureWords j).toInt ∧ (nfC_unsureWords j).toInt ≤ 17) ∧ (PX1_addUnsure iC_unsures fC_unsureWords fC_unsureWorths p0 p1 = (niC_unsures, nfC_unsureWords, nfC_unsureWorths)) ∧ Bw dC dI (va_A [(oc1 oC iC_nodes iC_words iC_chances iC_unsures iC_slips iC_throneNode iC_saidWorth iC_unit rC_kind rC_parts rC_partNodes rC_weights rC_weightSums rC_toldWorths rC_steps rC_below rC_above rC_unsureWords rC_unsureWorths), (arI rC_unsureWords kC_unsureWords 4 fC_unsureWords), (arI rC_unsureWorths kC_unsureWorths 4 fC_unsureWorths)] sz) [(oc1 oC iC_nodes iC_words iC_chances niC_unsures iC_slips iC_throneNode iC_saidWorth iC_unit rC_kind rC_parts rC_partNodes rC_weights rC_weightSums rC_toldWorths rC_steps rC_below rC_above rC_unsureWords rC_unsureWorths), (arI rC_unsureWords kC_unsureWords 4 nfC_unsureWords), (arI rC_unsureWorths kC_unsureWorths 4 nfC_unsureWorths)] [(kC_unsureWords, .int), (kC_unsureWorths, .int)] t) (va_A [(oc1 oC iC_nodes iC_words iC_chances iC_unsures iC_slips iC_throneNode iC_saidWorth iC_unit rC_kind rC_parts rC_partNodes rC_weights rC_weightSums rC_toldWorths rC_steps rC_below rC_above rC_unsureWords rC_unsureWorths), (arI rC_unsureWords kC_unsureWords 4 fC_unsureWords), (arI rC_unsureWorths kC_unsureWorths 4 fC_unsureWorths)] sz)) 0 0 (va_A [(oc1 oC iC_nodes iC_words iC_chances iC_unsures iC_slips iC_throneNode iC_saidWorth iC_unit rC_kind rC_parts rC_partNodes rC_weights rC_weightSums rC_toldWorths rC_steps rC_below rC_above rC_unsureWords rC_unsureWorths), (arI rC_unsureWords kC_unsureWords 4 fC_unsureWords), (arI rC_unsureWorths kC_unsureWorths 4 fC_unsureWorths)] sz) := by
  refine Met.ofW (cc := cX1_addUnsure) (maxL := 3) (ret := none) pnX1 rfl ?_
  intro p e s m args below meth c s₁ B hml hv
  obtain ⟨rfl, hsz, hP, hK, hD0, hE⟩ := hv
  have hx := B.exec
  have hb := B.bytes
  have hr := B.returns
  have hts : ∀ w ∈ wG, w.before ([.ref oC, .int p0, .int p1] : List Value).toArray s = true := fun w h => atoms_spec (ws := Cond.code yX1_addUnsure cX1_addUnsure 3 none :: wG) B.pre w (List.mem_cons_of_mem _ h)
  have hown : s.vm.findClass RX1 = some m.cls := own_of B.named rfl
  have hlocks := B.notSynchronized
  subst hsz
  have hD := hD0.self (sz := s.heap.size)
  generalize hAe : va_A [(oc1 oC iC_nodes iC_words iC_chances iC_unsures iC_slips iC_throneNode iC_saidWorth iC_unit rC_kind rC_parts rC_partNodes rC_weights rC_weightSums rC_toldWorths rC_steps rC_below rC_above rC_unsureWords rC_unsureWorths), (arI rC_unsureWords kC_unsureWords 4 fC_unsureWords), (arI rC_unsureWorths kC_unsureWorths 4 fC_unsureWorths)] s.heap.size = A at hD hE ⊢
  have hA : ∀ q : Nat, s.heap.size ≤ q → A q := fun q h => by rw [← hAe]; exact Or.inr h
  have hS : va_S A s.heap s.heap [] := va_S.rf
  have hl := lv_entry ([.ref oC, .int p0, .int p1]) (n := 3) (Nat.le_of_ble_eq_true rfl)
  rw [lg_entry_eq]
  generalize (lg_sl ([.ref oC, .int p0, .int p1]) ++ List.replicate (3 - (lg_sl ([.ref oC, .int p0, .int p1])).length) Slot.unset).toArray = ls at hl ⊢
  have hl : lv_has ls 3 [(0, .ref oC), (1, .int p0), (2, .int p1)] := hl
  have hG := PX1_addUnsure_eq iC_unsures fC_unsureWords fC_unsureWorths p0 p1
  refine lv_aload_n hx hb dX1_addUnsure_0 rfl (lv_at hl 0 rfl) ?_
  refine va_get (D := (dC, dI)) (ci := 1) (v := .int iC_unsures) (C := RX1) (T := TX1) (N := 19) hx hb hts inX1 hown hK hP 0 rfl rfl 3 (by decide) (hts _ wd_218) (fun _ h9 => h9) rfl dX1_addUnsure_1 ?_
  refine lv_iconst (v := 4) hx hb dX1_addUnsure_4 (by decide) ?_
  refine lv_icmp_ge (tgt := 38) hx hb dX1_addUnsure_5 (by decide) (fun c_199 => ?_) (fun c_199 => ?_)
  · skip
    have hG := hG.trans (if_pos c_199)
    have gc_199 := ti_le c_199 kc_4 rfl
    exact wq_v hx hb hr 0 trivial (fun t ht hW => ⟨iC_unsures, fC_unsureWords, fC_unsureWorths, b_iC_unsures, a_fC_unsureWords, hG, Bw.to hP hD hK ht hW⟩) hS dX1_addUnsure_38 hlocks
  · skip
    have hG := hG.trans (if_neg c_199)
    have gc_199 := ti_nle c_199 kc_4 rfl
    refine lv_aload_n hx hb dX1_addUnsure_8 rfl (lv_at hl 0 rfl) ?_
    refine va_get (D := (dC, dI)) (ci := 1) (v := .ref rC_unsureWords) (C := RX1) (T := TX1) (N := 19) hx hb hts inX1 hown hK hP 0 rfl rfl 17 (by decide) (hts _ wd_63) (fun _ h9 => h9) rfl dX1_addUnsure_9 ?_
    refine lv_aload_n hx hb dX1_addUnsure_12 rfl (lv_at hl 0 rfl) ?_
    refine va_get (D := (dC, dI)) (ci := 1) (v := .int iC_unsures) (C := RX1) (T := TX1) (N := 19) hx hb hts inX1 hown hK hP 0 rfl rfl 3 (by decide) (hts _ wd_218) (fun _ h9 => h9) rfl dX1_addUnsure_13 ?_
    refine lv_iload_n hx hb dX1_addUnsure_16 rfl (lv_at hl 1 rfl) ?_
    refine va_iast hx hb hK hP hD hS 1 0 rfl rfl (ti_in rfl b_iC_unsures.1 (om_289cd1d9 gc_199)) dX1_addUnsure_17 (fun H locs hP hD hS => ?_)
    obtain ⟨f_201, ef_201⟩ : ∃ g : Nat → Int32, g = upd fC_unsureWords iC_unsures.toNatClampNeg p0 := ⟨_, rfl⟩
    rw [← ef_201] at hP hD
    have hG := hG.trans (lt_eq ef_201)
    obtain ⟨hP, hD⟩ := wl2 (ws' := [(oc1 oC iC_nodes iC_words iC_chances iC_unsures iC_slips iC_throneNode iC_saidWorth iC_unit rC_kind rC_parts rC_partNodes rC_weights rC_weightSums rC_toldWorths rC_steps rC_below rC_above rC_unsureWords rC_unsureWorths), (arI rC_unsureWords kC_unsureWords 4 f_201), (arI rC_unsureWorths kC_unsureWorths 4 fC_unsureWorths)]) hP hD rfl
    have a_f_201 : ∀ j : Nat, j < 4 → 0 ≤ (f_201 j).toInt ∧ (f_201 j).toInt ≤ 17 := by rw [ef_201]; exact upd_in a_fC_unsureWords ⟨hp0.1, hp0.2⟩
    refine lv_aload_n hx hb dX1_addUnsure_18 rfl (lv_at hl 0 rfl) ?_
    refine va_get (D := (dC, dI)) (ci := 1) (v := .ref rC_unsureWorths) (C := RX1) (T := TX1) (N := 19) hx hb hts inX1 hown hK hP 0 rfl rfl 18 (by decide) (hts _ wd_64) (fun _ h9 => h9) rfl dX1_addUnsure_19 ?_
    refine lv_aload_n hx hb dX1_addUnsure_22 rfl (lv_at hl 0 rfl) ?_
    refine va_get (D := (dC, dI)) (ci := 1) (v := .int iC_unsures) (C := RX1) (T := TX1) (N := 19) hx hb hts inX1 hown hK hP 0 rfl rfl 3 (by decide) (hts _ wd_218) (fun _ h9 => h9) rfl dX1_addUnsure_23 ?_
    refine lv_iload_n hx hb dX1_addUnsure_26 rfl (lv_at hl 2 rfl) ?_
    refine va_iast hx hb hK hP hD hS 2 1 rfl rfl (ti_in rfl b_iC_unsures.1 (om_289cd1d9 gc_199)) dX1_addUnsure_27 (fun H locs hP hD hS => ?_)
    obtain ⟨f_203, ef_203⟩ : ∃ g : Nat → Int32, g = upd fC_unsureWorths iC_unsures.toNatClampNeg p1 := ⟨_, rfl⟩
    rw [← ef_203] at hP hD
    have hG := hG.trans (lt_eq ef_203)
    obtain ⟨hP, hD⟩ := wl2 (ws' := [(oc1 oC iC_nodes iC_words iC_chances iC_unsures iC_slips iC_throneNode iC_saidWorth iC_unit rC_kind rC_parts rC_partNodes rC_weights rC_weightSums rC_toldWorths rC_steps rC_below rC_above rC_unsureWords rC_unsureWorths), (arI rC_unsureWords kC_unsureWords 4 f_201), (arI rC_unsureWorths kC_unsureWorths 4 f_203)]) hP hD rfl
    refine lv_aload_n hx hb dX1_addUnsure_28 rfl (lv_at hl 0 rfl) ?_
    refine lv_dup hx hb dX1_addUnsure_29 rfl ?_
    refine va_get (D := (dC, dI)) (ci := 1) (v := .int iC_unsures) (C := RX1) (T := TX1) (N := 19) hx hb hts inX1 hown hK hP 0 rfl rfl 3 (by decide) (hts _ wd_218) (fun _ h9 => h9) rfl dX1_addUnsure_30 ?_
    refine lv_iconst (v := 1) hx hb dX1_addUnsure_33 (by decide) ?_
    refine lv_iadd hx hb dX1_addUnsure_34 ?_
    refine lv_topi (fun x_204 ex_204 => ?_)
    have hG := hG.trans (lt_eq ex_204)
    have vx_204 : x_204.toInt = iC_unsures.toInt + 1 := ti_add ex_204 rfl kc_1 (om_4e4fce7e b_iC_unsures.1) (om_bae2951a b_iC_unsures.2)
    refine va_put (D := (dC, dI)) (ci := 1) (v := .int x_204) (ty := .int) (C := RX1) (T := TX1) (N := 19) hx hb hts inX1 tyX1 tyX1_ok nmX1 hown hK hP hD hS 0 rfl rfl 3 (by decide) (hts _ wd_218) (fun _ h9 => h9) rfl (by decide +kernel) rfl rfl (Nat.le_of_ble_eq_true rfl) dX1_addUnsure_35 (fun H locs hP hD hS => ?_)
    obtain ⟨hP, hD⟩ := wl2 (ws' := [(oc1 oC iC_nodes iC_words iC_chances x_204 iC_slips iC_throneNode iC_saidWorth iC_unit rC_kind rC_parts rC_partNodes rC_weights rC_weightSums rC_toldWorths rC_steps rC_below rC_above rC_unsureWords rC_unsureWorths), (arI rC_unsureWords kC_unsureWords 4 f_201), (arI rC_unsureWorths kC_unsureWorths 4 f_203)]) hP hD rfl
    exact wq_v hx hb hr 0 trivial (fun t ht hW => ⟨x_204, f_201, f_203, ⟨(om_83b90de5 b_iC_unsures.1 vx_204), (om_cfa15d54 gc_199 vx_204)⟩, a_f_201, hG, Bw.to hP hD hK ht hW⟩) hS dX1_addUnsure_38 hlocks
set_option maxHeartbeats 4000000 in
set_option maxRecDepth 100000 in
theorem tX1_unsureSets (l : Launch) (dC : Nat → ClassId) (dI : Nat → Nat → Nat) (sz : Nat) (oC : Nat) (iC_nodes : Int32) (iC_words : Int32) (iC_chances : Int32) (iC_unsures : Int32) (iC_slips : Int32) (iC_throneNode : Int32) (iC_saidWorth : Int32) (iC_unit : Int32) (rC_kind : Nat) (rC_parts : Nat) (rC_partNodes : Nat) (rC_weights : Nat) (rC_weightSums : Nat) (rC_toldWorths : Nat) (rC_steps : Nat) (rC_below : Nat) (rC_above : Nat) (rC_unsureWords : Nat) (rC_unsureWorths : Nat) (b_iC_nodes : 0 ≤ iC_nodes.toInt ∧ iC_nodes.toInt ≤ 18) (b_iC_unsures : 0 ≤ iC_unsures.toInt ∧ iC_unsures.toInt ≤ 4) (b_iC_throneNode : (-1) ≤ iC_throneNode.toInt ∧ iC_throneNode.toInt ≤ 17)  : Met l yX1_unsureSets (Cond.code yX1_unsureSets cX1_unsureSets 1 (some .int) :: wG) ({ frames := 0, cells := 0, slots := 0, locals := 0 }) (va_Pc [.ref oC] (Pw dC dI sz [(oc1 oC iC_nodes iC_words iC_chances iC_unsures iC_slips iC_throneNode iC_saidWorth iC_unit rC_kind rC_parts rC_partNodes rC_weights rC_weightSums rC_toldWorths rC_steps rC_below rC_above rC_unsureWords rC_unsureWorths)] [])) (va_Qi (fun (r : Int32) (_ : Nat) => (True ∧ (1 ≤ r.toInt ∧ r.toInt ≤ 16)) ∧ PX1_unsureSets iC_unsures = r) (fun (_ : Nat) (t : State) => Bw dC dI (va_A [(oc1 oC iC_nodes iC_words iC_chances iC_unsures iC_slips iC_throneNode iC_saidWorth iC_unit rC_kind rC_parts rC_partNodes rC_weights rC_weightSums rC_toldWorths rC_steps rC_below rC_above rC_unsureWords rC_unsureWorths)] sz) [(oc1 oC iC_nodes iC_words iC_chances iC_unsures iC_slips iC_throneNode iC_saidWorth iC_unit rC_kind rC_parts rC_partNodes rC_weights rC_weightSums rC_toldWorths rC_steps rC_below rC_above rC_unsureWords rC_unsureWorths)] [] t) (va_A [(oc1 oC iC_nodes iC_words iC_chances iC_unsures iC_slips iC_throneNode iC_saidWorth iC_unit rC_kind rC_parts rC_partNodes rC_weights rC_weightSums rC_toldWorths rC_steps rC_below rC_above rC_unsureWords rC_unsureWorths)] sz)) 0 0 (va_A [(oc1 oC iC_nodes iC_words iC_chances iC_unsures iC_slips iC_throneNode iC_saidWorth iC_unit rC_kind rC_parts rC_partNodes rC_weights rC_weightSums rC_toldWorths rC_steps rC_below rC_above rC_unsureWords rC_unsureWorths)] sz) := by
  refine Met.ofW (cc := cX1_unsureSets) (maxL := 1) (ret := (some .int)) pnX1 rfl ?_
  intro p e s m args below meth c s₁ B hml hv
  obtain ⟨rfl, hsz, hP, hK, hD0, hE⟩ := hv
  have hx := B.exec
  have hb := B.bytes
  have hr := B.returns
  have hts : ∀ w ∈ wG, w.before ([.ref oC] : List Value).toArray s = true := fun w h => atoms_spec (ws := Cond.code yX1_unsureSets cX1_unsureSets 1 (some .int) :: wG) B.pre w (List.mem_cons_of_mem _ h)
  have hown : s.vm.findClass RX1 = some m.cls := own_of B.named rfl
  have hlocks := B.notSynchronized
  subst hsz
  have hD := hD0.self (sz := s.heap.size)
  generalize hAe : va_A [(oc1 oC iC_nodes iC_words iC_chances iC_unsures iC_slips iC_throneNode iC_saidWorth iC_unit rC_kind rC_parts rC_partNodes rC_weights rC_weightSums rC_toldWorths rC_steps rC_below rC_above rC_unsureWords rC_unsureWorths)] s.heap.size = A at hD hE ⊢
  have hA : ∀ q : Nat, s.heap.size ≤ q → A q := fun q h => by rw [← hAe]; exact Or.inr h
  have hS : va_S A s.heap s.heap [] := va_S.rf
  have hl := lv_entry ([.ref oC]) (n := 1) (Nat.le_of_ble_eq_true rfl)
  rw [lg_entry_eq]
  generalize (lg_sl ([.ref oC]) ++ List.replicate (1 - (lg_sl ([.ref oC])).length) Slot.unset).toArray = ls at hl ⊢
  have hl : lv_has ls 1 [(0, .ref oC)] := hl
  have hG := PX1_unsureSets_eq iC_unsures
  refine lv_iconst (v := 1) hx hb dX1_unsureSets_0 (by decide) ?_
  refine lv_aload_n hx hb dX1_unsureSets_1 rfl (lv_at hl 0 rfl) ?_
  refine va_get (D := (dC, dI)) (ci := 1) (v := .int iC_unsures) (C := RX1) (T := TX1) (N := 19) hx hb hts inX1 hown hK hP 0 rfl rfl 3 (by decide) (hts _ wd_218) (fun _ h9 => h9) rfl dX1_unsureSets_2 ?_
  refine lv_ishl hx hb dX1_unsureSets_5 ?_
  refine lv_topi (fun x_206 ex_206 => ?_)
  have hG := hG.trans (lt_eq ex_206)
  have qx_206 := ti_shl ex_206 rfl (by omega) (by omega)
  exact wq_i hx hb hr 0 ⟨⟨trivial, ⟨by omega, by omega⟩⟩, hG⟩ (fun t ht hW => Bw.to hP hD hK ht hW) hS dX1_unsureSets_6 hlocks
set_option maxHeartbeats 4000000 in
set_option maxRecDepth 100000 in
theorem tX1_placeOfPart (l : Launch) (dC : Nat → ClassId) (dI : Nat → Nat → Nat) (sz : Nat) (oC : Nat) (iC_nodes : Int32) (iC_words : Int32) (iC_chances : Int32) (iC_unsures : Int32) (iC_slips : Int32) (iC_throneNode : Int32) (iC_saidWorth : Int32) (iC_unit : Int32) (rC_kind : Nat) (rC_parts : Nat) (fC_parts : Nat → Int32) (kC_parts : ClassId) (rC_partNodes : Nat) (fC_partNodes : Nat → Int32) (kC_partNodes : ClassId) (rC_weights : Nat) (rC_weightSums : Nat) (rC_toldWorths : Nat) (rC_steps : Nat) (rC_below : Nat) (rC_above : Nat) (rC_unsureWords : Nat) (rC_unsureWorths : Nat) (p0 : Int32) (p1 : Int32) (b_iC_nodes : 0 ≤ iC_nodes.toInt ∧ iC_nodes.toInt ≤ 18) (b_iC_unsures : 0 ≤ iC_unsures.toInt ∧ iC_unsures.toInt ≤ 4) (b_iC_throneNode : (-1) ≤ iC_throneNode.toInt ∧ iC_throneNode.toInt ≤ 17) (a_fC_parts : ∀ j : Nat, j < 18 → 0 ≤ (fC_parts j).toInt ∧ (fC_parts j).toInt ≤ 4) (a_fC_partNodes : ∀ j : Nat, j < 72 → 0 ≤ (fC_partNodes j).toInt ∧ (fC_partNodes j).toInt ≤ 17)  : Met l yX1_placeOfPart (Cond.code yX1_placeOfPart cX1_placeOfPart 4 (some .int) :: wG) ({ frames := 0, cells := 0, slots := 0, locals := 0 }) (va_Pc [.ref oC, .int p0, .int p1] (Pw dC dI sz [(oc1 oC iC_nodes iC_words iC_chances iC_unsures iC_slips iC_throneNode iC_saidWorth iC_unit rC_kind rC_parts rC_partNodes rC_weights rC_weightSums rC_toldWorths rC_steps rC_below rC_above rC_unsureWords rC_unsureWorths), (arI rC_parts kC_parts 18 fC_parts), (arI rC_partNodes kC_partNodes 72 fC_partNodes)] [(kC_parts, .int), (kC_partNodes, .int)])) (va_Qi (fun (r : Int32) (_ : Nat) => (True ∧ ((-1) ≤ r.toInt ∧ r.toInt ≤ 3)) ∧ PX1_placeOfPart fC_parts fC_partNodes p0 p1 = r) (fun (_ : Nat) (t : State) => Bw dC dI (va_A [(oc1 oC iC_nodes iC_words iC_chances iC_unsures iC_slips iC_throneNode iC_saidWorth iC_unit rC_kind rC_parts rC_partNodes rC_weights rC_weightSums rC_toldWorths rC_steps rC_below rC_above rC_unsureWords rC_unsureWorths), (arI rC_parts kC_parts 18 fC_parts), (arI rC_partNodes kC_partNodes 72 fC_partNodes)] sz) [(oc1 oC iC_nodes iC_words iC_chances iC_unsures iC_slips iC_throneNode iC_saidWorth iC_unit rC_kind rC_parts rC_partNodes rC_weights rC_weightSums rC_toldWorths rC_steps rC_below rC_above rC_unsureWords rC_unsureWorths), (arI rC_parts kC_parts 18 fC_parts), (arI rC_partNodes kC_partNodes 72 fC_partNodes)] [(kC_parts, .int), (kC_partNodes, .int)] t) (va_A [(oc1 oC iC_nodes iC_words iC_chances iC_unsures iC_slips iC_throneNode iC_saidWorth iC_unit rC_kind rC_parts rC_partNodes rC_weights rC_weightSums rC_toldWorths rC_steps rC_below rC_above rC_unsureWords rC_unsureWorths), (arI rC_parts kC_parts 18 fC_parts), (arI rC_partNodes kC_partNodes 72 fC_partNodes)] sz)) 0 0 (va_A [(oc1 oC iC_nodes iC_words iC_chances iC_unsures iC_slips iC_throneNode iC_saidWorth iC_unit rC_kind rC_parts rC_partNodes rC_weights rC_weightSums rC_toldWorths rC_steps rC_below rC_above rC_unsureWords rC_unsureWorths), (arI rC_parts kC_parts 18 fC_parts), (arI rC_partNodes kC_partNodes 72 fC_partNodes)] sz) := by
  refine Met.ofW (cc := cX1_placeOfPart) (maxL := 4) (ret := (some .int)) pnX1 rfl ?_
  intro p e s m args below meth c s₁ B hml hv
  obtain ⟨rfl, hsz, hP, hK, hD0, hE⟩ := hv
  have hx := B.exec
  have hb := B.bytes
  have hr := B.returns
  have hts : ∀ w ∈ wG, w.before ([.ref oC, .int p0, .int p1] : List Value).toArray s = true := fun w h => atoms_spec (ws := Cond.code yX1_placeOfPart cX1_placeOfPart 4 (some .int) :: wG) B.pre w (List.mem_cons_of_mem _ h)
  have hown : s.vm.findClass RX1 = some m.cls := own_of B.named rfl
  have hlocks := B.notSynchronized
  subst hsz
  have hD := hD0.self (sz := s.heap.size)
  generalize hAe : va_A [(oc1 oC iC_nodes iC_words iC_chances iC_unsures iC_slips iC_throneNode iC_saidWorth iC_unit rC_kind rC_parts rC_partNodes rC_weights rC_weightSums rC_toldWorths rC_steps rC_below rC_above rC_unsureWords rC_unsureWorths), (arI rC_parts kC_parts 18 fC_parts), (arI rC_partNodes kC_partNodes 72 fC_partNodes)] s.heap.size = A at hD hE ⊢
  have hA : ∀ q : Nat, s.heap.size ≤ q → A q := fun q h => by rw [← hAe]; exact Or.inr h
  have hS : va_S A s.heap s.heap [] := va_S.rf
  have hl := lv_entry ([.ref oC, .int p0, .int p1]) (n := 4) (Nat.le_of_ble_eq_true rfl)
  rw [lg_entry_eq]
  generalize (lg_sl ([.ref oC, .int p0, .int p1]) ++ List.replicate (4 - (lg_sl ([.ref oC, .int p0, .int p1])).length) Slot.unset).toArray = ls at hl ⊢
  have hl : lv_has ls 4 [(0, .ref oC), (1, .int p0), (2, .int p1)] := hl
  have hG := PX1_placeOfPart_eq fC_parts fC_partNodes p0 p1
  have rg_p0 := fb_rng p0
  have rg_p1 := fb_rng p1
  refine lv_iload_n hx hb dX1_placeOfPart_0 rfl (lv_at hl 1 rfl) ?_
  refine lv_if_lt (tgt := 10) hx hb dX1_placeOfPart_1 (by decide) (fun c_218 => ?_) (fun c_218 => ?_)
  · skip
    have hG := hG.trans (if_pos c_218)
    have gc_218 := ti_lt c_218 rfl kc_0
    refine lv_iconst (v := (-1)) hx hb dX1_placeOfPart_10 (by decide) ?_
    exact wq_i hx hb hr 0 ⟨⟨trivial, (by decide)⟩, hG⟩ (fun t ht hW => Bw.to hP hD hK ht hW) hS dX1_placeOfPart_11 hlocks
  · skip
    have hG := hG.trans (if_neg c_218)
    have gc_218 := ti_nlt c_218 rfl kc_0
    refine lv_iload_n hx hb dX1_placeOfPart_4 rfl (lv_at hl 1 rfl) ?_
    refine lv_bipush (v := 18) hx hb dX1_placeOfPart_5 (by decide) ?_
    refine lv_icmp_lt (tgt := 12) hx hb dX1_placeOfPart_7 (by decide) (fun c_219 => ?_) (fun c_219 => ?_)
    · skip
      have hG := hG.trans (if_pos c_219)
      have gc_219 := ti_lt c_219 rfl kc_18
      refine lv_iconst (v := 0) hx hb dX1_placeOfPart_12 (by decide) ?_
      refine lv_istore_n (lv' := [(3, .int 0), (0, .ref oC), (1, .int p0), (2, .int p1)]) hx hb dX1_placeOfPart_13 rfl hl (by decide) rfl (fun ls hl => ?_)
      have hl := lv_sub hl (l' := [(3, .int 0), (0, .ref oC), (1, .int p0), (2, .int p1)]) [0, 1, 2, 3] rfl
      have key_n_221 : ∀ (n_221 : Nat) (z_220 : Int32) (H : Heap) (locs : List Loc) (ls : Array Slot), (0 ≤ z_220.toInt ∧ z_220.toInt ≤ 2147483647) → (2147483647 - z_220.toInt).toNat < n_221 → (PX1_placeOfPart fC_parts fC_partNodes p0 p1 = HX1_placeOfPart_0 fC_parts fC_partNodes p0 p1 n_221 z_220) → va_P (dC, dI) vwCl [(oc1 oC iC_nodes iC_words iC_chances iC_unsures iC_slips iC_throneNode iC_saidWorth iC_unit rC_kind rC_parts rC_partNodes rC_weights rC_weightSums rC_toldWorths rC_steps rC_below rC_above rC_unsureWords rC_unsureWorths), (arI rC_parts kC_parts 18 fC_parts), (arI rC_partNodes kC_partNodes 72 fC_partNodes)] H → va_D A [(oc1 oC iC_nodes iC_words iC_chances iC_unsures iC_slips iC_throneNode iC_saidWorth iC_unit rC_kind rC_parts rC_partNodes rC_weights rC_weightSums rC_toldWorths rC_steps rC_below rC_above rC_unsureWords rC_unsureWorths), (arI rC_parts kC_parts 18 fC_parts), (arI rC_partNodes kC_partNodes 72 fC_partNodes)] → va_S A s.heap H locs → lv_has ls 4 [(3, .int z_220), (0, .ref oC), (1, .int p0), (2, .int p1)] → W p l e (headSpec (Cond.code yX1_placeOfPart cX1_placeOfPart 4 (some .int) :: wG) ({ frames := 0, cells := 0, slots := 0, locals := 0 })).room s m ([.ref oC, .int p0, .int p1] : List Value).toArray below meth c H locs 0 0 (MQ below (va_Qi (fun (r : Int32) (_ : Nat) => (True ∧ ((-1) ≤ r.toInt ∧ r.toInt ≤ 3)) ∧ PX1_placeOfPart fC_parts fC_partNodes p0 p1 = r) (fun (_ : Nat) (t : State) => Bw dC dI A [(oc1 oC iC_nodes iC_words iC_chances iC_unsures iC_slips iC_throneNode iC_saidWorth iC_unit rC_kind rC_parts rC_partNodes rC_weights rC_weightSums rC_toldWorths rC_steps rC_below rC_above rC_unsureWords rC_unsureWorths), (arI rC_parts kC_parts 18 fC_parts), (arI rC_partNodes kC_partNodes 72 fC_partNodes)] [(kC_parts, .int), (kC_partNodes, .int)] t) A) ([.ref oC, .int p0, .int p1] : List Value).toArray s 0 0 A) (F0 m 14 ls []) := by
        intro n_221
        induction n_221 with
        | zero => intro z_220 H locs ls hi0_n_221 hm; exact absurd hm (Nat.not_lt_zero _)
        | succ n_221 ih_n_221 =>
          intro z_220 H locs ls hi0_n_221 hm_n_221 hG hP hD hS hl
          have hG := hG.trans (HX1_placeOfPart_0_eq _ _ _ _ _ _)
          have rg_z_220 := fb_rng z_220
          refine lv_iload_n hx hb dX1_placeOfPart_14 rfl (lv_at hl 0 rfl) ?_
          refine lv_aload_n hx hb dX1_placeOfPart_15 rfl (lv_at hl 1 rfl) ?_
          refine va_get (D := (dC, dI)) (ci := 1) (v := .ref rC_parts) (C := RX1) (T := TX1) (N := 19) hx hb hts inX1 hown hK hP 0 rfl rfl 9 (by decide) (hts _ wd_55) (fun _ h9 => h9) rfl dX1_placeOfPart_16 ?_
          refine lv_iload_n hx hb dX1_placeOfPart_19 rfl (lv_at hl 2 rfl) ?_
          refine va_iald hx hb hK hP 1 0 rfl rfl (ti_in rfl gc_218 (om_c3e6050f gc_219)) dX1_placeOfPart_20 ?_
          refine lv_topi (fun x_222 ex_222 => ?_)
          have hG := hG.trans (lt_eq ex_222)
          have rg_x_222 := fb_rng x_222
          have kx_222 : (fC_parts p0.toNatClampNeg).toInt = x_222.toInt := by rw [ex_222]
          have ux_222 := a_fC_parts p0.toNatClampNeg (cl_lt rfl gc_218 (om_c3e6050f gc_219))
          rw [show fC_parts p0.toNatClampNeg = x_222 from ex_222.symm] at ux_222
          refine lv_icmp_ge (tgt := 46) hx hb dX1_placeOfPart_21 (by decide) (fun c_223 => ?_) (fun c_223 => ?_)
          · skip
            have hG := hG.trans (if_pos c_223)
            have gc_223 := ti_le c_223 rfl rfl
            refine lv_iconst (v := (-1)) hx hb dX1_placeOfPart_46 (by decide) ?_
            exact wq_i hx hb hr 0 ⟨⟨trivial, (by decide)⟩, hG⟩ (fun t ht hW => Bw.to hP hD hK ht hW) hS dX1_placeOfPart_47 hlocks
          · skip
            have hG := hG.trans (if_neg c_223)
            have gc_223 := ti_nle c_223 rfl rfl
            refine lv_aload_n hx hb dX1_placeOfPart_24 rfl (lv_at hl 1 rfl) ?_
            refine va_get (D := (dC, dI)) (ci := 1) (v := .ref rC_partNodes) (C := RX1) (T := TX1) (N := 19) hx hb hts inX1 hown hK hP 0 rfl rfl 10 (by decide) (hts _ wd_56) (fun _ h9 => h9) rfl dX1_placeOfPart_25 ?_
            refine lv_iload_n hx hb dX1_placeOfPart_28 rfl (lv_at hl 2 rfl) ?_
            refine lv_iconst (v := 4) hx hb dX1_placeOfPart_29 (by decide) ?_
            refine lv_imul hx hb dX1_placeOfPart_30 ?_
            refine lv_topi (fun x_224 ex_224 => ?_)
            have hG := hG.trans (lt_eq ex_224)
            have vx_224 : x_224.toInt = 4 * p0.toInt := by have q := ti_mul ex_224 rfl kc_4 (by omega) (by omega); omega
            refine lv_iload_n hx hb dX1_placeOfPart_31 rfl (lv_at hl 0 rfl) ?_
            refine lv_iadd hx hb dX1_placeOfPart_32 ?_
            refine lv_topi (fun x_225 ex_225 => ?_)
            have hG := hG.trans (lt_eq ex_225)
            have vx_225 : x_225.toInt = 4 * p0.toInt + z_220.toInt := om_5d0caf0f (ti_add ex_225 vx_224 rfl (om_056a216f gc_218 hi0_n_221.1) (om_39e69b69 gc_219 ux_222.2 gc_223))
            refine va_iald hx hb hK hP 2 1 rfl rfl (ti_in vx_225 (om_fc2812d4 gc_218 hi0_n_221.1) (om_537cafd1 gc_219 ux_222.2 gc_223)) dX1_placeOfPart_33 ?_
            refine lv_topi (fun x_226 ex_226 => ?_)
            have hG := hG.trans (lt_eq ex_226)
            have rg_x_226 := fb_rng x_226
            have kx_226 : (fC_partNodes x_225.toNatClampNeg).toInt = x_226.toInt := by rw [ex_226]
            have ux_226 := a_fC_partNodes x_225.toNatClampNeg (cl_lt vx_225 (om_fc2812d4 gc_218 hi0_n_221.1) (om_537cafd1 gc_219 ux_222.2 gc_223))
            rw [show fC_partNodes x_225.toNatClampNeg = x_226 from ex_226.symm] at ux_226
            refine lv_iload_n hx hb dX1_placeOfPart_34 rfl (lv_at hl 3 rfl) ?_
            refine lv_icmp_ne (tgt := 40) hx hb dX1_placeOfPart_35 (by decide) (fun c_227 => ?_) (fun c_227 => ?_)
            · skip
              have hG := hG.trans (if_neg c_227)
              have gc_227 := ti_ne c_227 rfl rfl
              obtain ⟨x_228, ex_228⟩ : ∃ z : Int32, z = z_220 + Int32.ofInt 1 := ⟨_, rfl⟩
              have hG := hG.trans (lt_eq ex_228)
              have vx_228 : x_228.toInt = z_220.toInt + 1 := ti_add (y := 1) ex_228 rfl kc_1 (om_4e4fce7e hi0_n_221.1) (om_0ca29412 ux_222.2 gc_223)
              refine lv_iinc (v := x_228) (lv' := [(3, .int x_228), (0, .ref oC), (1, .int p0), (2, .int p1)]) hx hb dX1_placeOfPart_40 hl (k := 0) rfl ex_228.symm (by decide) rfl (fun ls hl => ?_)
              refine lv_goto (tgt := 14) hx hb dX1_placeOfPart_43 (by decide) ?_
              exact ih_n_221 x_228 _ _ _  ⟨(om_83b90de5 hi0_n_221.1 vx_228), (om_008057e4 ux_222.2 gc_223 vx_228)⟩ (ms_lt hm_n_221 (om_b9393183 vx_228) (om_349eab4e ux_222.2 gc_223)) hG hP hD hS (lv_sub hl [0, 1, 2, 3] rfl)
            · skip
              have hG := hG.trans (if_pos c_227)
              have gc_227 := ti_eq c_227 rfl rfl
              refine lv_iload_n hx hb dX1_placeOfPart_38 rfl (lv_at hl 0 rfl) ?_
              exact wq_i hx hb hr 0 ⟨⟨trivial, ⟨(om_9b1c209f hi0_n_221.1), (om_c9276b6d ux_222.2 gc_223)⟩⟩, hG⟩ (fun t ht hW => Bw.to hP hD hK ht hW) hS dX1_placeOfPart_39 hlocks
      exact key_n_221 (((2147483647 - (0 : Int32).toInt).toNat) + 1) 0 _ _ _  ⟨(om_b1de7dbe kc_0), (om_daf17c64 kc_0)⟩ (Nat.lt_add_one _) hG hP hD hS hl
    · skip
      have hG := hG.trans (if_neg c_219)
      have gc_219 := ti_nlt c_219 rfl kc_18
      refine lv_iconst (v := (-1)) hx hb dX1_placeOfPart_10 (by decide) ?_
      exact wq_i hx hb hr 0 ⟨⟨trivial, (by decide)⟩, hG⟩ (fun t ht hW => Bw.to hP hD hK ht hW) hS dX1_placeOfPart_11 hlocks
set_option maxHeartbeats 4000000 in
set_option maxRecDepth 100000 in
theorem tX1_isUnsure (l : Launch) (dC : Nat → ClassId) (dI : Nat → Nat → Nat) (sz : Nat) (oC : Nat) (iC_nodes : Int32) (iC_words : Int32) (iC_chances : Int32) (iC_unsures : Int32) (iC_slips : Int32) (iC_throneNode : Int32) (iC_saidWorth : Int32) (iC_unit : Int32) (rC_kind : Nat) (rC_parts : Nat) (rC_partNodes : Nat) (rC_weights : Nat) (rC_weightSums : Nat) (rC_toldWorths : Nat) (rC_steps : Nat) (rC_below : Nat) (rC_above : Nat) (rC_unsureWords : Nat) (fC_unsureWords : Nat → Int32) (kC_unsureWords : ClassId) (rC_unsureWorths : Nat) (p0 : Int32) (b_iC_nodes : 0 ≤ iC_nodes.toInt ∧ iC_nodes.toInt ≤ 18) (b_iC_unsures : 0 ≤ iC_unsures.toInt ∧ iC_unsures.toInt ≤ 4) (b_iC_throneNode : (-1) ≤ iC_throneNode.toInt ∧ iC_throneNode.toInt ≤ 17) (a_fC_unsureWords : ∀ j : Nat, j < 4 → 0 ≤ (fC_unsureWords j).toInt ∧ (fC_unsureWords j).toInt ≤ 17)  : Met l yX1_isUnsure (Cond.code yX1_isUnsure cX1_isUnsure 3 (some .boolean) :: wG) ({ frames := 0, cells := 0, slots := 0, locals := 0 }) (va_Pc [.ref oC, .int p0] (Pw dC dI sz [(oc1 oC iC_nodes iC_words iC_chances iC_unsures iC_slips iC_throneNode iC_saidWorth iC_unit rC_kind rC_parts rC_partNodes rC_weights rC_weightSums rC_toldWorths rC_steps rC_below rC_above rC_unsureWords rC_unsureWorths), (arI rC_unsureWords kC_unsureWords 4 fC_unsureWords)] [(kC_unsureWords, .int)])) (va_Qi (fun (r : Int32) (_ : Nat) => ((r = 0 ∨ r = 1) ∧ True) ∧ PX1_isUnsure iC_unsures fC_unsureWords p0 = r) (fun (_ : Nat) (t : State) => Bw dC dI (va_A [(oc1 oC iC_nodes iC_words iC_chances iC_unsures iC_slips iC_throneNode iC_saidWorth iC_unit rC_kind rC_parts rC_partNodes rC_weights rC_weightSums rC_toldWorths rC_steps rC_below rC_above rC_unsureWords rC_unsureWorths), (arI rC_unsureWords kC_unsureWords 4 fC_unsureWords)] sz) [(oc1 oC iC_nodes iC_words iC_chances iC_unsures iC_slips iC_throneNode iC_saidWorth iC_unit rC_kind rC_parts rC_partNodes rC_weights rC_weightSums rC_toldWorths rC_steps rC_below rC_above rC_unsureWords rC_unsureWorths), (arI rC_unsureWords kC_unsureWords 4 fC_unsureWords)] [(kC_unsureWords, .int)] t) (va_A [(oc1 oC iC_nodes iC_words iC_chances iC_unsures iC_slips iC_throneNode iC_saidWorth iC_unit rC_kind rC_parts rC_partNodes rC_weights rC_weightSums rC_toldWorths rC_steps rC_below rC_above rC_unsureWords rC_unsureWorths), (arI rC_unsureWords kC_unsureWords 4 fC_unsureWords)] sz)) 0 0 (va_A [(oc1 oC iC_nodes iC_words iC_chances iC_unsures iC_slips iC_throneNode iC_saidWorth iC_unit rC_kind rC_parts rC_partNodes rC_weights rC_weightSums rC_toldWorths rC_steps rC_below rC_above rC_unsureWords rC_unsureWorths), (arI rC_unsureWords kC_unsureWords 4 fC_unsureWords)] sz) := by
  refine Met.ofW (cc := cX1_isUnsure) (maxL := 3) (ret := (some .boolean)) pnX1 rfl ?_
  intro p e s m args below meth c s₁ B hml hv
  obtain ⟨rfl, hsz, hP, hK, hD0, hE⟩ := hv
  have hx := B.exec
  have hb := B.bytes
  have hr := B.returns
  have hts : ∀ w ∈ wG, w.before ([.ref oC, .int p0] : List Value).toArray s = true := fun w h => atoms_spec (ws := Cond.code yX1_isUnsure cX1_isUnsure 3 (some .boolean) :: wG) B.pre w (List.mem_cons_of_mem _ h)
  have hown : s.vm.findClass RX1 = some m.cls := own_of B.named rfl
  have hlocks := B.notSynchronized
  subst hsz
  have hD := hD0.self (sz := s.heap.size)
  generalize hAe : va_A [(oc1 oC iC_nodes iC_words iC_chances iC_unsures iC_slips iC_throneNode iC_saidWorth iC_unit rC_kind rC_parts rC_partNodes rC_weights rC_weightSums rC_toldWorths rC_steps rC_below rC_above rC_unsureWords rC_unsureWorths), (arI rC_unsureWords kC_unsureWords 4 fC_unsureWords)] s.heap.size = A at hD hE ⊢
  have hA : ∀ q : Nat, s.heap.size ≤ q → A q := fun q h => by rw [← hAe]; exact Or.inr h
  have hS : va_S A s.heap s.heap [] := va_S.rf
  have hl := lv_entry ([.ref oC, .int p0]) (n := 3) (Nat.le_of_ble_eq_true rfl)
  rw [lg_entry_eq]
  generalize (lg_sl ([.ref oC, .int p0]) ++ List.replicate (3 - (lg_sl ([.ref oC, .int p0])).length) Slot.unset).toArray = ls at hl ⊢
  have hl : lv_has ls 3 [(0, .ref oC), (1, .int p0)] := hl
  have hG := PX1_isUnsure_eq iC_unsures fC_unsureWords p0
  have rg_p0 := fb_rng p0
  refine lv_iconst (v := 0) hx hb dX1_isUnsure_0 (by decide) ?_
  refine lv_istore_n (lv' := [(2, .int 0), (0, .ref oC), (1, .int p0)]) hx hb dX1_isUnsure_1 rfl hl (by decide) rfl (fun ls hl => ?_)
  have hl := lv_sub hl (l' := [(2, .int 0), (0, .ref oC), (1, .int p0)]) [0, 1, 2] rfl
  have key_n_236 : ∀ (n_236 : Nat) (z_235 : Int32) (H : Heap) (locs : List Loc) (ls : Array Slot), (0 ≤ z_235.toInt ∧ z_235.toInt ≤ 2147483647) → (2147483647 - z_235.toInt).toNat < n_236 → (PX1_isUnsure iC_unsures fC_unsureWords p0 = HX1_isUnsure_0 iC_unsures fC_unsureWords p0 n_236 z_235) → va_P (dC, dI) vwCl [(oc1 oC iC_nodes iC_words iC_chances iC_unsures iC_slips iC_throneNode iC_saidWorth iC_unit rC_kind rC_parts rC_partNodes rC_weights rC_weightSums rC_toldWorths rC_steps rC_below rC_above rC_unsureWords rC_unsureWorths), (arI rC_unsureWords kC_unsureWords 4 fC_unsureWords)] H → va_D A [(oc1 oC iC_nodes iC_words iC_chances iC_unsures iC_slips iC_throneNode iC_saidWorth iC_unit rC_kind rC_parts rC_partNodes rC_weights rC_weightSums rC_toldWorths rC_steps rC_below rC_above rC_unsureWords rC_unsureWorths), (arI rC_unsureWords kC_unsureWords 4 fC_unsureWords)] → va_S A s.heap H locs → lv_has ls 3 [(2, .int z_235), (0, .ref oC), (1, .int p0)] → W p l e (headSpec (Cond.code yX1_isUnsure cX1_isUnsure 3 (some .boolean) :: wG) ({ frames := 0, cells := 0, slots := 0, locals := 0 })).room s m ([.ref oC, .int p0] : List Value).toArray below meth c H locs 0 0 (MQ below (va_Qi (fun (r : Int32) (_ : Nat) => ((r = 0 ∨ r = 1) ∧ True) ∧ PX1_isUnsure iC_unsures fC_unsureWords p0 = r) (fun (_ : Nat) (t : State) => Bw dC dI A [(oc1 oC iC_nodes iC_words iC_chances iC_unsures iC_slips iC_throneNode iC_saidWorth iC_unit rC_kind rC_parts rC_partNodes rC_weights rC_weightSums rC_toldWorths rC_steps rC_below rC_above rC_unsureWords rC_unsureWorths), (arI rC_unsureWords kC_unsureWords 4 fC_unsureWords)] [(kC_unsureWords, .int)] t) A) ([.ref oC, .int p0] : List Value).toArray s 0 0 A) (F0 m 2 ls []) := by
    intro n_236
    induction n_236 with
    | zero => intro z_235 H locs ls hi0_n_236 hm; exact absurd hm (Nat.not_lt_zero _)
    | succ n_236 ih_n_236 =>
      intro z_235 H locs ls hi0_n_236 hm_n_236 hG hP hD hS hl
      have hG := hG.trans (HX1_isUnsure_0_eq _ _ _ _ _)
      have rg_z_235 := fb_rng z_235
      refine lv_iload_n hx hb dX1_isUnsure_2 rfl (lv_at hl 0 rfl) ?_
      refine lv_aload_n hx hb dX1_isUnsure_3 rfl (lv_at hl 1 rfl) ?_
      refine va_get (D := (dC, dI)) (ci := 1) (v := .int iC_unsures) (C := RX1) (T := TX1) (N := 19) hx hb hts inX1 hown hK hP 0 rfl rfl 3 (by decide) (hts _ wd_218) (fun _ h9 => h9) rfl dX1_isUnsure_4 ?_
      have rg_iC_unsures := fb_rng iC_unsures
      refine lv_icmp_ge (tgt := 28) hx hb dX1_isUnsure_7 (by decide) (fun c_237 => ?_) (fun c_237 => ?_)
      · skip
        have hG := hG.trans (if_pos c_237)
        have gc_237 := ti_le c_237 rfl rfl
        refine lv_iconst (v := 0) hx hb dX1_isUnsure_28 (by decide) ?_
        exact wq_z (v := 0) hx hb hr rfl 0 ⟨⟨Or.inl rfl, trivial⟩, hG⟩ (fun t ht hW => Bw.to hP hD hK ht hW) hS dX1_isUnsure_29 hlocks
      · skip
        have hG := hG.trans (if_neg c_237)
        have gc_237 := ti_nle c_237 rfl rfl
        refine lv_aload_n hx hb dX1_isUnsure_10 rfl (lv_at hl 1 rfl) ?_
        refine va_get (D := (dC, dI)) (ci := 1) (v := .ref rC_unsureWords) (C := RX1) (T := TX1) (N := 19) hx hb hts inX1 hown hK hP 0 rfl rfl 17 (by decide) (hts _ wd_63) (fun _ h9 => h9) rfl dX1_isUnsure_11 ?_
        refine lv_iload_n hx hb dX1_isUnsure_14 rfl (lv_at hl 0 rfl) ?_
        refine va_iald hx hb hK hP 1 0 rfl rfl (ti_in rfl hi0_n_236.1 (om_2470ff38 b_iC_unsures.2 gc_237)) dX1_isUnsure_15 ?_
        refine lv_topi (fun x_238 ex_238 => ?_)
        have hG := hG.trans (lt_eq ex_238)
        have rg_x_238 := fb_rng x_238
        have kx_238 : (fC_unsureWords z_235.toNatClampNeg).toInt = x_238.toInt := by rw [ex_238]
        have ux_238 := a_fC_unsureWords z_235.toNatClampNeg (cl_lt rfl hi0_n_236.1 (om_2470ff38 b_iC_unsures.2 gc_237))
        rw [show fC_unsureWords z_235.toNatClampNeg = x_238 from ex_238.symm] at ux_238
        refine lv_iload_n hx hb dX1_isUnsure_16 rfl (lv_at hl 2 rfl) ?_
        refine lv_icmp_ne (tgt := 22) hx hb dX1_isUnsure_17 (by decide) (fun c_239 => ?_) (fun c_239 => ?_)
        · skip
          have hG := hG.trans (if_neg c_239)
          have gc_239 := ti_ne c_239 rfl rfl
          obtain ⟨x_240, ex_240⟩ : ∃ z : Int32, z = z_235 + Int32.ofInt 1 := ⟨_, rfl⟩
          have hG := hG.trans (lt_eq ex_240)
          have vx_240 : x_240.toInt = z_235.toInt + 1 := ti_add (y := 1) ex_240 rfl kc_1 (om_4e4fce7e hi0_n_236.1) (om_0ca29412 b_iC_unsures.2 gc_237)
          refine lv_iinc (v := x_240) (lv' := [(2, .int x_240), (0, .ref oC), (1, .int p0)]) hx hb dX1_isUnsure_22 hl (k := 0) rfl ex_240.symm (by decide) rfl (fun ls hl => ?_)
          refine lv_goto (tgt := 2) hx hb dX1_isUnsure_25 (by decide) ?_
          exact ih_n_236 x_240 _ _ _  ⟨(om_83b90de5 hi0_n_236.1 vx_240), (om_008057e4 b_iC_unsures.2 gc_237 vx_240)⟩ (ms_lt hm_n_236 (om_b9393183 vx_240) (om_349eab4e b_iC_unsures.2 gc_237)) hG hP hD hS (lv_sub hl [0, 1, 2] rfl)
        · skip
          have hG := hG.trans (if_pos c_239)
          have gc_239 := ti_eq c_239 rfl rfl
          refine lv_iconst (v := 1) hx hb dX1_isUnsure_20 (by decide) ?_
          exact wq_z (v := 1) hx hb hr rfl 0 ⟨⟨Or.inr rfl, trivial⟩, hG⟩ (fun t ht hW => Bw.to hP hD hK ht hW) hS dX1_isUnsure_21 hlocks
  exact key_n_236 (((2147483647 - (0 : Int32).toInt).toNat) + 1) 0 _ _ _  ⟨(om_b1de7dbe kc_0), (om_daf17c64 kc_0)⟩ (Nat.lt_add_one _) hG hP hD hS hl
set_option maxHeartbeats 4000000 in
set_option maxRecDepth 100000 in
theorem tX1_addPart (l : Launch) (dC : Nat → ClassId) (dI : Nat → Nat → Nat) (sz : Nat) (oC : Nat) (iC_nodes : Int32) (iC_words : Int32) (iC_chances : Int32) (iC_unsures : Int32) (iC_slips : Int32) (iC_throneNode : Int32) (iC_saidWorth : Int32) (iC_unit : Int32) (rC_kind : Nat) (rC_parts : Nat) (fC_parts : Nat → Int32) (kC_parts : ClassId) (rC_partNodes : Nat) (fC_partNodes : Nat → Int32) (kC_partNodes : ClassId) (rC_weights : Nat) (fC_weights : Nat → Int32) (kC_weights : ClassId) (rC_weightSums : Nat) (fC_weightSums : Nat → Int32) (kC_weightSums : ClassId) (rC_toldWorths : Nat) (rC_steps : Nat) (fC_steps : Nat → Int32) (kC_steps : ClassId) (rC_below : Nat) (fC_below : Nat → Int32) (kC_below : ClassId) (rC_above : Nat) (fC_above : Nat → Int32) (kC_above : ClassId) (rC_unsureWords : Nat) (rC_unsureWorths : Nat) (p0 : Int32) (p1 : Int32) (b_iC_nodes : 0 ≤ iC_nodes.toInt ∧ iC_nodes.toInt ≤ 18) (b_iC_unsures : 0 ≤ iC_unsures.toInt ∧ iC_unsures.toInt ≤ 4) (b_iC_throneNode : (-1) ≤ iC_throneNode.toInt ∧ iC_throneNode.toInt ≤ 17) (a_fC_parts : ∀ j : Nat, j < 18 → 0 ≤ (fC_parts j).toInt ∧ (fC_parts j).toInt ≤ 4) (a_fC_partNodes : ∀ j : Nat, j < 72 → 0 ≤ (fC_partNodes j).toInt ∧ (fC_partNodes j).toInt ≤ 17)  : Met l yX1_addPart (Cond.code yX1_addPart cX1_addPart 4 none :: wG) ({ frames := 1, cells := 0, slots := 0, locals := 29 }) (va_Pc [.ref oC, .int p0, .int p1] (Pw dC dI sz [(oc1 oC iC_nodes iC_words iC_chances iC_unsures iC_slips iC_throneNode iC_saidWorth iC_unit rC_kind rC_parts rC_partNodes rC_weights rC_weightSums rC_toldWorths rC_steps rC_below rC_above rC_unsureWords rC_unsureWorths), (arI rC_parts kC_parts 18 fC_parts), (arI rC_partNodes kC_partNodes 72 fC_partNodes), (arI rC_weights kC_weights 72 fC_weights), (arI rC_weightSums kC_weightSums 18 fC_weightSums), (arI rC_steps kC_steps 18 fC_steps), (arI rC_below kC_below 18 fC_below), (arI rC_above kC_above 18 fC_above)] [(kC_parts, .int), (kC_partNodes, .int), (kC_weights, .int), (kC_weightSums, .int), (kC_steps, .int), (kC_below, .int), (kC_above, .int)])) (va_Qv (fun (_ : Nat) => True) (fun (_ : Nat) (t : State) => ∃ (nfC_parts : Nat → Int32) (nfC_partNodes : Nat → Int32) (nfC_weights : Nat → Int32) (nfC_weightSums : Nat → Int32) (nfC_steps : Nat → Int32) (nfC_below : Nat → Int32) (nfC_above : Nat → Int32), (∀ j : Nat, j < 18 → 0 ≤ (nfC_parts j).toInt ∧ (nfC_parts j).toInt ≤ 4) ∧ (∀ j : Nat, j < 72 → 0 ≤ (nfC_partNodes j).toInt ∧ (nfC_partNodes j).toInt ≤ 17) ∧ (PX1_addPart iC_nodes fC_parts fC_partNodes fC_weights fC_weightSums fC_steps fC_below fC_above p0 p1 = (nfC_parts, nfC_partNodes, nfC_weights, nfC_weightSums, nfC_steps, nfC_below, nfC_above)) ∧ Bw dC dI (va_A [(oc1 oC iC_nodes iC_words iC_chances iC_unsures iC_slips iC_throneNode iC_saidWorth iC_unit rC_kind rC_parts rC_partNodes rC_weights rC_weightSums rC_toldWorths rC_steps rC_below rC_above rC_unsureWords rC_unsureWorths), (arI rC_parts kC_parts 18 fC_parts), (arI rC_partNodes kC_partNodes 72 fC_partNodes), (arI rC_weights kC_weights 72 fC_weights), (arI rC_weightSums kC_weightSums 18 fC_weightSums), (arI rC_steps kC_steps 18 fC_steps), (arI rC_below kC_below 18 fC_below), (arI rC_above kC_above 18 fC_above)] sz) [(oc1 oC iC_nodes iC_words iC_chances iC_unsures iC_slips iC_throneNode iC_saidWorth iC_unit rC_kind rC_parts rC_partNodes rC_weights rC_weightSums rC_toldWorths rC_steps rC_below rC_above rC_unsureWords rC_unsureWorths), (arI rC_parts kC_parts 18 nfC_parts), (arI rC_partNodes kC_partNodes 72 nfC_partNodes), (arI rC_weights kC_weights 72 nfC_weights), (arI rC_weightSums kC_weightSums 18 nfC_weightSums), (arI rC_steps kC_steps 18 nfC_steps), (arI rC_below kC_below 18 nfC_below), (arI rC_above kC_above 18 nfC_above)] [(kC_parts, .int), (kC_partNodes, .int), (kC_weights, .int), (kC_weightSums, .int), (kC_steps, .int), (kC_below, .int), (kC_above, .int)] t) (va_A [(oc1 oC iC_nodes iC_words iC_chances iC_unsures iC_slips iC_throneNode iC_saidWorth iC_unit rC_kind rC_parts rC_partNodes rC_weights rC_weightSums rC_toldWorths rC_steps rC_below rC_above rC_unsureWords rC_unsureWorths), (arI rC_parts kC_parts 18 fC_parts), (arI rC_partNodes kC_partNodes 72 fC_partNodes), (arI rC_weights kC_weights 72 fC_weights), (arI rC_weightSums kC_weightSums 18 fC_weightSums), (arI rC_steps kC_steps 18 fC_steps), (arI rC_below kC_below 18 fC_below), (arI rC_above kC_above 18 fC_above)] sz)) 0 0 (va_A [(oc1 oC iC_nodes iC_words iC_chances iC_unsures iC_slips iC_throneNode iC_saidWorth iC_unit rC_kind rC_parts rC_partNodes rC_weights rC_weightSums rC_toldWorths rC_steps rC_below rC_above rC_unsureWords rC_unsureWorths), (arI rC_parts kC_parts 18 fC_parts), (arI rC_partNodes kC_partNodes 72 fC_partNodes), (arI rC_weights kC_weights 72 fC_weights), (arI rC_weightSums kC_weightSums 18 fC_weightSums), (arI rC_steps kC_steps 18 fC_steps), (arI rC_below kC_below 18 fC_below), (arI rC_above kC_above 18 fC_above)] sz) := by
  refine Met.ofW (cc := cX1_addPart) (maxL := 4) (ret := none) pnX1 rfl ?_
  intro p e s m args below meth c s₁ B hml hv
  obtain ⟨rfl, hsz, hP, hK, hD0, hE⟩ := hv
  have hx := B.exec
  have hb := B.bytes
  have hr := B.returns
  have hts : ∀ w ∈ wG, w.before ([.ref oC, .int p0, .int p1] : List Value).toArray s = true := fun w h => atoms_spec (ws := Cond.code yX1_addPart cX1_addPart 4 none :: wG) B.pre w (List.mem_cons_of_mem _ h)
  have hown : s.vm.findClass RX1 = some m.cls := own_of B.named rfl
  have hlocks := B.notSynchronized
  subst hsz
  have hD := hD0.self (sz := s.heap.size)
  generalize hAe : va_A [(oc1 oC iC_nodes iC_words iC_chances iC_unsures iC_slips iC_throneNode iC_saidWorth iC_unit rC_kind rC_parts rC_partNodes rC_weights rC_weightSums rC_toldWorths rC_steps rC_below rC_above rC_unsureWords rC_unsureWorths), (arI rC_parts kC_parts 18 fC_parts), (arI rC_partNodes kC_partNodes 72 fC_partNodes), (arI rC_weights kC_weights 72 fC_weights), (arI rC_weightSums kC_weightSums 18 fC_weightSums), (arI rC_steps kC_steps 18 fC_steps), (arI rC_below kC_below 18 fC_below), (arI rC_above kC_above 18 fC_above)] s.heap.size = A at hD hE ⊢
  have hA : ∀ q : Nat, s.heap.size ≤ q → A q := fun q h => by rw [← hAe]; exact Or.inr h
  have hS : va_S A s.heap s.heap [] := va_S.rf
  have hl := lv_entry ([.ref oC, .int p0, .int p1]) (n := 4) (Nat.le_of_ble_eq_true rfl)
  rw [lg_entry_eq]
  generalize (lg_sl ([.ref oC, .int p0, .int p1]) ++ List.replicate (4 - (lg_sl ([.ref oC, .int p0, .int p1])).length) Slot.unset).toArray = ls at hl ⊢
  have hl : lv_has ls 4 [(0, .ref oC), (1, .int p0), (2, .int p1)] := hl
  have hG := PX1_addPart_eq iC_nodes fC_parts fC_partNodes fC_weights fC_weightSums fC_steps fC_below fC_above p0 p1
  refine lv_aload_n hx hb dX1_addPart_0 rfl (lv_at hl 0 rfl) ?_
  have hMs := ml_of hD [true, true, false, false, false, false, false, false] (wc := [(oc1 oC iC_nodes iC_words iC_chances iC_unsures iC_slips iC_throneNode iC_saidWorth iC_unit rC_kind rC_parts rC_partNodes rC_weights rC_weightSums rC_toldWorths rC_steps rC_below rC_above rC_unsureWords rC_unsureWorths), (arI rC_parts kC_parts 18 fC_parts)]) rfl
  have hFc := va_freeM hD hS hA _ hMs
  refine va_calli (va_runV (As := []) (rest := []) ⟨hx, hb, hml, hown, hts⟩ (tX1_hasRoomForPart l dC dI _ oC iC_nodes iC_words iC_chances iC_unsures iC_slips iC_throneNode iC_saidWorth iC_unit rC_kind rC_parts fC_parts kC_parts rC_partNodes rC_weights rC_weightSums rC_toldWorths rC_steps rC_below rC_above rC_unsureWords rC_unsureWorths b_iC_nodes b_iC_unsures b_iC_throneNode a_fC_parts) (cwV 0 hts (wd_V wd_324 wd_313 wd_314 wd_19 (wd_c wd_315)) rfl rfl rfl dv_yX1_hasRoomForPart_0 ⟨Nat.le_of_ble_eq_true rfl, Nat.le_of_ble_eq_true rfl⟩) ⟨Pw.fb, recvX1 hK hP (q0 := 0) rfl, fun U hU hW => Pw.to (hP.ms _ hMs) (hD.ms _ hMs) (hK.ms [true, false, false, false, false, false, false] rfl) hE hS hFc hU hW⟩ rfl rfl hl.1 rfl (lv_room (Nat.le_of_ble_eq_true rfl)) dX1_addPart_1 ⟨Nat.le_of_ble_eq_true rfl, Nat.le_of_ble_eq_true rfl⟩) hS (fun q _ h => hFc q h) hFc (fun r u t H locs ht hvm hw hB hz1 hk1 hS => ?_)
  have hru9 := hw.2
  have hw := hw.1
  obtain ⟨hP, hD⟩ := Bw.goN (ws' := [(oc1 oC iC_nodes iC_words iC_chances iC_unsures iC_slips iC_throneNode iC_saidWorth iC_unit rC_kind rC_parts rC_partNodes rC_weights rC_weightSums rC_toldWorths rC_steps rC_below rC_above rC_unsureWords rC_unsureWorths), (arI rC_parts kC_parts 18 fC_parts), (arI rC_partNodes kC_partNodes 72 fC_partNodes), (arI rC_weights kC_weights 72 fC_weights), (arI rC_weightSums kC_weightSums 18 fC_weightSums), (arI rC_steps kC_steps 18 fC_steps), (arI rC_below kC_below 18 fC_below), (arI rC_above kC_above 18 fC_above)]) hB rfl ht hP hD _ hMs hk1 hFc rfl
  clear hz1 hk1 hvm ht hB hMs
  rcases hw.2 with ⟨rfl, hc_271⟩ | ⟨rfl, hc_271⟩
  · skip
    have hG := hG.trans (lt_eq hru9.symm)
    have hG := hG.trans (if_pos rfl)
    refine lv_if_eq (tgt := 134) hx hb dX1_addPart_4 (by decide) (fun c => absurd c (by decide)) (fun _ => ?_)
    refine lv_aload_n hx hb dX1_addPart_7 rfl (lv_at hl 0 rfl) ?_
    refine lv_iload_n hx hb dX1_addPart_8 rfl (lv_at hl 1 rfl) ?_
    have hMs := ml_of hD [true, false, false, false, false, false, false, false] (wc := [(oc1 oC iC_nodes iC_words iC_chances iC_unsures iC_slips iC_throneNode iC_saidWorth iC_unit rC_kind rC_parts rC_partNodes rC_weights rC_weightSums rC_toldWorths rC_steps rC_below rC_above rC_unsureWords rC_unsureWorths)]) rfl
    have hFc := va_freeM hD hS hA _ hMs
    refine va_calli (va_runV (As := [.int p0]) (rest := []) ⟨hx, hb, hml, hown, hts⟩ (tX1_hasNode l dC dI _ oC iC_nodes iC_words iC_chances iC_unsures iC_slips iC_throneNode iC_saidWorth iC_unit rC_kind rC_parts rC_partNodes rC_weights rC_weightSums rC_toldWorths rC_steps rC_below rC_above rC_unsureWords rC_unsureWorths p0 b_iC_nodes b_iC_unsures b_iC_throneNode) (cwV 1 hts (wd_V wd_325 wd_326 wd_327 wd_19 (wd_c wd_328)) rfl rfl rfl dv_yX1_hasNode_1 ⟨Nat.le_of_ble_eq_true rfl, Nat.le_of_ble_eq_true rfl⟩) ⟨Pw.fb, recvX1 hK hP (q0 := 0) rfl, fun U hU hW => Pw.to (hP.ms _ hMs) (hD.ms _ hMs) (hK.ms [false, false, false, false, false, false, false] rfl) hE hS hFc hU hW⟩ rfl rfl hl.1 rfl (lv_room (Nat.le_of_ble_eq_true rfl)) dX1_addPart_9 ⟨Nat.le_of_ble_eq_true rfl, Nat.le_of_ble_eq_true rfl⟩) hS (fun q _ h => hFc q h) hFc (fun r u t H locs ht hvm hw hB hz1 hk1 hS => ?_)
    have hru9 := hw.2
    have hw := hw.1
    obtain ⟨hP, hD⟩ := Bw.goN (ws' := [(oc1 oC iC_nodes iC_words iC_chances iC_unsures iC_slips iC_throneNode iC_saidWorth iC_unit rC_kind rC_parts rC_partNodes rC_weights rC_weightSums rC_toldWorths rC_steps rC_below rC_above rC_unsureWords rC_unsureWorths), (arI rC_parts kC_parts 18 fC_parts), (arI rC_partNodes kC_partNodes 72 fC_partNodes), (arI rC_weights kC_weights 72 fC_weights), (arI rC_weightSums kC_weightSums 18 fC_weightSums), (arI rC_steps kC_steps 18 fC_steps), (arI rC_below kC_below 18 fC_below), (arI rC_above kC_above 18 fC_above)]) hB rfl ht hP hD _ hMs hk1 hFc rfl
    clear hz1 hk1 hvm ht hB hMs
    rcases hw.2 with ⟨rfl, hc_274⟩ | ⟨rfl, hc_274⟩
    · skip
      have hG := hG.trans (lt_eq hru9.symm)
      have hG := hG.trans (if_pos rfl)
      refine lv_if_eq (tgt := 134) hx hb dX1_addPart_12 (by decide) (fun c => absurd c (by decide)) (fun _ => ?_)
      refine lv_aload_n hx hb dX1_addPart_15 rfl (lv_at hl 0 rfl) ?_
      refine va_get (D := (dC, dI)) (ci := 1) (v := .int iC_nodes) (C := RX1) (T := TX1) (N := 19) hx hb hts inX1 hown hK hP 0 rfl rfl 0 (by decide) (hts _ wd_215) (fun _ h9 => h9) rfl dX1_addPart_16 ?_
      refine lv_iconst (v := 4) hx hb dX1_addPart_19 (by decide) ?_
      refine lv_imul hx hb dX1_addPart_20 ?_
      refine lv_topi (fun x_277 ex_277 => ?_)
      have hG := hG.trans (lt_eq ex_277)
      have vx_277 : x_277.toInt = 4 * iC_nodes.toInt := by have q := ti_mul ex_277 rfl kc_4 (by omega) (by omega); omega
      refine lv_aload_n hx hb dX1_addPart_21 rfl (lv_at hl 0 rfl) ?_
      refine va_get (D := (dC, dI)) (ci := 1) (v := .ref rC_parts) (C := RX1) (T := TX1) (N := 19) hx hb hts inX1 hown hK hP 0 rfl rfl 9 (by decide) (hts _ wd_55) (fun _ h9 => h9) rfl dX1_addPart_22 ?_
      refine lv_aload_n hx hb dX1_addPart_25 rfl (lv_at hl 0 rfl) ?_
      refine va_get (D := (dC, dI)) (ci := 1) (v := .int iC_nodes) (C := RX1) (T := TX1) (N := 19) hx hb hts inX1 hown hK hP 0 rfl rfl 0 (by decide) (hts _ wd_215) (fun _ h9 => h9) rfl dX1_addPart_26 ?_
      refine va_iald hx hb hK hP 1 0 rfl rfl (ti_in rfl b_iC_nodes.1 (om_c3e6050f hc_271.1)) dX1_addPart_29 ?_
      refine lv_topi (fun x_278 ex_278 => ?_)
      have hG := hG.trans (lt_eq ex_278)
      have kx_278 : (fC_parts iC_nodes.toNatClampNeg).toInt = x_278.toInt := by rw [ex_278]
      have ux_278 := a_fC_parts iC_nodes.toNatClampNeg (cl_lt rfl b_iC_nodes.1 (om_c3e6050f hc_271.1))
      rw [show fC_parts iC_nodes.toNatClampNeg = x_278 from ex_278.symm] at ux_278
      refine lv_iadd hx hb dX1_addPart_30 ?_
      refine lv_topi (fun x_279 ex_279 => ?_)
      have hG := hG.trans (lt_eq ex_279)
      have vx_279 : x_279.toInt = 4 * iC_nodes.toInt + x_278.toInt := om_5d0caf0f (ti_add ex_279 vx_277 rfl (om_056a216f b_iC_nodes.1 ux_278.1) (om_cfbfc750 b_iC_nodes.2 ux_278.2))
      refine lv_istore_n (lv' := [(3, .int x_279), (0, .ref oC), (1, .int p0), (2, .int p1)]) hx hb dX1_addPart_31 rfl hl (by decide) rfl (fun ls hl => ?_)
      refine lv_aload_n hx hb dX1_addPart_32 rfl (lv_at hl 1 rfl) ?_
      refine va_get (D := (dC, dI)) (ci := 1) (v := .ref rC_partNodes) (C := RX1) (T := TX1) (N := 19) hx hb hts inX1 hown hK hP 0 rfl rfl 10 (by decide) (hts _ wd_56) (fun _ h9 => h9) rfl dX1_addPart_33 ?_
      refine lv_iload_n hx hb dX1_addPart_36 rfl (lv_at hl 0 rfl) ?_
      refine lv_iload_n hx hb dX1_addPart_37 rfl (lv_at hl 2 rfl) ?_
      refine va_iast hx hb hK hP hD hS 2 1 rfl rfl (ti_in vx_279 (om_fc2812d4 b_iC_nodes.1 ux_278.1) (om_d85c86be hc_271.1 hc_271.2 kx_278)) dX1_addPart_38 (fun H locs hP hD hS => ?_)
      obtain ⟨f_281, ef_281⟩ : ∃ g : Nat → Int32, g = upd fC_partNodes x_279.toNatClampNeg p0 := ⟨_, rfl⟩
      rw [← ef_281] at hP hD
      have hG := hG.trans (lt_eq ef_281)
      obtain ⟨hP, hD⟩ := wl2 (ws' := [(oc1 oC iC_nodes iC_words iC_chances iC_unsures iC_slips iC_throneNode iC_saidWorth iC_unit rC_kind rC_parts rC_partNodes rC_weights rC_weightSums rC_toldWorths rC_steps rC_below rC_above rC_unsureWords rC_unsureWorths), (arI rC_parts kC_parts 18 fC_parts), (arI rC_partNodes kC_partNodes 72 f_281), (arI rC_weights kC_weights 72 fC_weights), (arI rC_weightSums kC_weightSums 18 fC_weightSums), (arI rC_steps kC_steps 18 fC_steps), (arI rC_below kC_below 18 fC_below), (arI rC_above kC_above 18 fC_above)]) hP hD rfl
      have a_f_281 : ∀ j : Nat, j < 72 → 0 ≤ (f_281 j).toInt ∧ (f_281 j).toInt ≤ 17 := by rw [ef_281]; exact upd_in a_fC_partNodes ⟨hc_274.1, (om_525c5d3e b_iC_nodes.2 hc_274.2)⟩
      refine lv_aload_n hx hb dX1_addPart_39 rfl (lv_at hl 1 rfl) ?_
      refine va_get (D := (dC, dI)) (ci := 1) (v := .ref rC_weights) (C := RX1) (T := TX1) (N := 19) hx hb hts inX1 hown hK hP 0 rfl rfl 11 (by decide) (hts _ wd_57) (fun _ h9 => h9) rfl dX1_addPart_40 ?_
      refine lv_iload_n hx hb dX1_addPart_43 rfl (lv_at hl 0 rfl) ?_
      refine lv_iload_n hx hb dX1_addPart_44 rfl (lv_at hl 3 rfl) ?_
      refine va_iast hx hb hK hP hD hS 3 2 rfl rfl (ti_in vx_279 (om_fc2812d4 b_iC_nodes.1 ux_278.1) (om_d85c86be hc_271.1 hc_271.2 kx_278)) dX1_addPart_45 (fun H locs hP hD hS => ?_)
      obtain ⟨f_283, ef_283⟩ : ∃ g : Nat → Int32, g = upd fC_weights x_279.toNatClampNeg p1 := ⟨_, rfl⟩
      rw [← ef_283] at hP hD
      have hG := hG.trans (lt_eq ef_283)
      obtain ⟨hP, hD⟩ := wl2 (ws' := [(oc1 oC iC_nodes iC_words iC_chances iC_unsures iC_slips iC_throneNode iC_saidWorth iC_unit rC_kind rC_parts rC_partNodes rC_weights rC_weightSums rC_toldWorths rC_steps rC_below rC_above rC_unsureWords rC_unsureWorths), (arI rC_parts kC_parts 18 fC_parts), (arI rC_partNodes kC_partNodes 72 f_281), (arI rC_weights kC_weights 72 f_283), (arI rC_weightSums kC_weightSums 18 fC_weightSums), (arI rC_steps kC_steps 18 fC_steps), (arI rC_below kC_below 18 fC_below), (arI rC_above kC_above 18 fC_above)]) hP hD rfl
      refine lv_aload_n hx hb dX1_addPart_46 rfl (lv_at hl 1 rfl) ?_
      refine va_get (D := (dC, dI)) (ci := 1) (v := .ref rC_parts) (C := RX1) (T := TX1) (N := 19) hx hb hts inX1 hown hK hP 0 rfl rfl 9 (by decide) (hts _ wd_55) (fun _ h9 => h9) rfl dX1_addPart_47 ?_
      refine lv_aload_n hx hb dX1_addPart_50 rfl (lv_at hl 1 rfl) ?_
      refine va_get (D := (dC, dI)) (ci := 1) (v := .int iC_nodes) (C := RX1) (T := TX1) (N := 19) hx hb hts inX1 hown hK hP 0 rfl rfl 0 (by decide) (hts _ wd_215) (fun _ h9 => h9) rfl dX1_addPart_51 ?_
      refine lv_dup2_11 hx hb dX1_addPart_54 rfl rfl ?_
      refine va_iald hx hb hK hP 1 0 rfl rfl (ti_in rfl b_iC_nodes.1 (om_c3e6050f hc_271.1)) dX1_addPart_55 ?_
      refine lv_topi (fun x_284 ex_284 => ?_)
      have hG := hG.trans (lt_eq ex_284)
      have kx_284 : (fC_parts iC_nodes.toNatClampNeg).toInt = x_284.toInt := by rw [ex_284]
      have ux_284 := a_fC_parts iC_nodes.toNatClampNeg (cl_lt rfl b_iC_nodes.1 (om_c3e6050f hc_271.1))
      rw [show fC_parts iC_nodes.toNatClampNeg = x_284 from ex_284.symm] at ux_284
      refine lv_iconst (v := 1) hx hb dX1_addPart_56 (by decide) ?_
      refine lv_iadd hx hb dX1_addPart_57 ?_
      refine lv_topi (fun x_285 ex_285 => ?_)
      have hG := hG.trans (lt_eq ex_285)
      have vx_285 : x_285.toInt = x_284.toInt + 1 := ti_add ex_285 rfl kc_1 (om_4e4fce7e ux_284.1) (om_bae2951a ux_284.2)
      refine va_iast hx hb hK hP hD hS 1 0 rfl rfl (ti_in rfl b_iC_nodes.1 (om_c3e6050f hc_271.1)) dX1_addPart_58 (fun H locs hP hD hS => ?_)
      obtain ⟨f_287, ef_287⟩ : ∃ g : Nat → Int32, g = upd fC_parts iC_nodes.toNatClampNeg x_285 := ⟨_, rfl⟩
      rw [← ef_287] at hP hD
      have hG := hG.trans (lt_eq ef_287)
      obtain ⟨hP, hD⟩ := wl2 (ws' := [(oc1 oC iC_nodes iC_words iC_chances iC_unsures iC_slips iC_throneNode iC_saidWorth iC_unit rC_kind rC_parts rC_partNodes rC_weights rC_weightSums rC_toldWorths rC_steps rC_below rC_above rC_unsureWords rC_unsureWorths), (arI rC_parts kC_parts 18 f_287), (arI rC_partNodes kC_partNodes 72 f_281), (arI rC_weights kC_weights 72 f_283), (arI rC_weightSums kC_weightSums 18 fC_weightSums), (arI rC_steps kC_steps 18 fC_steps), (arI rC_below kC_below 18 fC_below), (arI rC_above kC_above 18 fC_above)]) hP hD rfl
      have a_f_287 : ∀ j : Nat, j < 18 → 0 ≤ (f_287 j).toInt ∧ (f_287 j).toInt ≤ 4 := by rw [ef_287]; exact upd_in a_fC_parts ⟨(om_83b90de5 ux_284.1 vx_285), (om_67e84112 hc_271.2 kx_284 vx_285)⟩
      refine lv_aload_n hx hb dX1_addPart_59 rfl (lv_at hl 1 rfl) ?_
      refine va_get (D := (dC, dI)) (ci := 1) (v := .ref rC_weightSums) (C := RX1) (T := TX1) (N := 19) hx hb hts inX1 hown hK hP 0 rfl rfl 12 (by decide) (hts _ wd_58) (fun _ h9 => h9) rfl dX1_addPart_60 ?_
      refine lv_aload_n hx hb dX1_addPart_63 rfl (lv_at hl 1 rfl) ?_
      refine va_get (D := (dC, dI)) (ci := 1) (v := .int iC_nodes) (C := RX1) (T := TX1) (N := 19) hx hb hts inX1 hown hK hP 0 rfl rfl 0 (by decide) (hts _ wd_215) (fun _ h9 => h9) rfl dX1_addPart_64 ?_
      refine lv_dup2_11 hx hb dX1_addPart_67 rfl rfl ?_
      refine va_iald hx hb hK hP 4 3 rfl rfl (ti_in rfl b_iC_nodes.1 (om_c3e6050f hc_271.1)) dX1_addPart_68 ?_
      refine lv_topi (fun x_288 ex_288 => ?_)
      have hG := hG.trans (lt_eq ex_288)
      have kx_288 : (fC_weightSums iC_nodes.toNatClampNeg).toInt = x_288.toInt := by rw [ex_288]
      refine lv_iload_n hx hb dX1_addPart_69 rfl (lv_at hl 3 rfl) ?_
      refine lv_iadd hx hb dX1_addPart_70 ?_
      refine lv_topi (fun x_289 ex_289 => ?_)
      have hG := hG.trans (lt_eq ex_289)
      refine va_iast hx hb hK hP hD hS 4 3 rfl rfl (ti_in rfl b_iC_nodes.1 (om_c3e6050f hc_271.1)) dX1_addPart_71 (fun H locs hP hD hS => ?_)
      obtain ⟨f_291, ef_291⟩ : ∃ g : Nat → Int32, g = upd fC_weightSums iC_nodes.toNatClampNeg x_289 := ⟨_, rfl⟩
      rw [← ef_291] at hP hD
      have hG := hG.trans (lt_eq ef_291)
      obtain ⟨hP, hD⟩ := wl2 (ws' := [(oc1 oC iC_nodes iC_words iC_chances iC_unsures iC_slips iC_throneNode iC_saidWorth iC_unit rC_kind rC_parts rC_partNodes rC_weights rC_weightSums rC_toldWorths rC_steps rC_below rC_above rC_unsureWords rC_unsureWorths), (arI rC_parts kC_parts 18 f_287), (arI rC_partNodes kC_partNodes 72 f_281), (arI rC_weights kC_weights 72 f_283), (arI rC_weightSums kC_weightSums 18 f_291), (arI rC_steps kC_steps 18 fC_steps), (arI rC_below kC_below 18 fC_below), (arI rC_above kC_above 18 fC_above)]) hP hD rfl
      refine lv_aload_n hx hb dX1_addPart_72 rfl (lv_at hl 1 rfl) ?_
      refine va_get (D := (dC, dI)) (ci := 1) (v := .ref rC_steps) (C := RX1) (T := TX1) (N := 19) hx hb hts inX1 hown hK hP 0 rfl rfl 14 (by decide) (hts _ wd_60) (fun _ h9 => h9) rfl dX1_addPart_73 ?_
      refine lv_aload_n hx hb dX1_addPart_76 rfl (lv_at hl 1 rfl) ?_
      refine va_get (D := (dC, dI)) (ci := 1) (v := .int iC_nodes) (C := RX1) (T := TX1) (N := 19) hx hb hts inX1 hown hK hP 0 rfl rfl 0 (by decide) (hts _ wd_215) (fun _ h9 => h9) rfl dX1_addPart_77 ?_
      refine lv_aload_n hx hb dX1_addPart_80 rfl (lv_at hl 1 rfl) ?_
      refine va_get (D := (dC, dI)) (ci := 1) (v := .ref rC_steps) (C := RX1) (T := TX1) (N := 19) hx hb hts inX1 hown hK hP 0 rfl rfl 14 (by decide) (hts _ wd_60) (fun _ h9 => h9) rfl dX1_addPart_81 ?_
      refine lv_aload_n hx hb dX1_addPart_84 rfl (lv_at hl 1 rfl) ?_
      refine va_get (D := (dC, dI)) (ci := 1) (v := .int iC_nodes) (C := RX1) (T := TX1) (N := 19) hx hb hts inX1 hown hK hP 0 rfl rfl 0 (by decide) (hts _ wd_215) (fun _ h9 => h9) rfl dX1_addPart_85 ?_
      refine va_iald hx hb hK hP 5 4 rfl rfl (ti_in rfl b_iC_nodes.1 (om_c3e6050f hc_271.1)) dX1_addPart_88 ?_
      refine lv_topi (fun x_292 ex_292 => ?_)
      have hG := hG.trans (lt_eq ex_292)
      have kx_292 : (fC_steps iC_nodes.toNatClampNeg).toInt = x_292.toInt := by rw [ex_292]
      refine lv_aload_n hx hb dX1_addPart_89 rfl (lv_at hl 1 rfl) ?_
      refine va_get (D := (dC, dI)) (ci := 1) (v := .ref rC_steps) (C := RX1) (T := TX1) (N := 19) hx hb hts inX1 hown hK hP 0 rfl rfl 14 (by decide) (hts _ wd_60) (fun _ h9 => h9) rfl dX1_addPart_90 ?_
      refine lv_iload_n hx hb dX1_addPart_93 rfl (lv_at hl 2 rfl) ?_
      refine va_iald hx hb hK hP 5 4 rfl rfl (ti_in rfl hc_274.1 (om_97cd4a7c b_iC_nodes.2 hc_274.2)) dX1_addPart_94 ?_
      refine lv_topi (fun x_293 ex_293 => ?_)
      have hG := hG.trans (lt_eq ex_293)
      have kx_293 : (fC_steps p0.toNatClampNeg).toInt = x_293.toInt := by rw [ex_293]
      refine lv_iconst (v := 1) hx hb dX1_addPart_95 (by decide) ?_
      refine lv_iadd hx hb dX1_addPart_96 ?_
      refine lv_topi (fun x_294 ex_294 => ?_)
      have hG := hG.trans (lt_eq ex_294)
      refine va_mmax hx hb (hml.trans hl.1.symm) hown (hts _ wd_320) (hts _ wd_321) (hts _ wd_322) (hts _ wd_323) (Nat.le_of_ble_eq_true rfl) (Nat.le_of_ble_eq_true rfl) (Nat.le_of_ble_eq_true rfl) (Nat.le_of_ble_eq_true rfl) dX1_addPart_97 ?_
      refine lv_topi (fun x_295 ex_295 => ?_)
      have hG := hG.trans (lt_eq ex_295)
      have qx_295 := ti_max ex_295 rfl rfl
      refine va_iast hx hb hK hP hD hS 5 4 rfl rfl (ti_in rfl b_iC_nodes.1 (om_c3e6050f hc_271.1)) dX1_addPart_100 (fun H locs hP hD hS => ?_)
      obtain ⟨f_297, ef_297⟩ : ∃ g : Nat → Int32, g = upd fC_steps iC_nodes.toNatClampNeg x_295 := ⟨_, rfl⟩
      rw [← ef_297] at hP hD
      have hG := hG.trans (lt_eq ef_297)
      obtain ⟨hP, hD⟩ := wl2 (ws' := [(oc1 oC iC_nodes iC_words iC_chances iC_unsures iC_slips iC_throneNode iC_saidWorth iC_unit rC_kind rC_parts rC_partNodes rC_weights rC_weightSums rC_toldWorths rC_steps rC_below rC_above rC_unsureWords rC_unsureWorths), (arI rC_parts kC_parts 18 f_287), (arI rC_partNodes kC_partNodes 72 f_281), (arI rC_weights kC_weights 72 f_283), (arI rC_weightSums kC_weightSums 18 f_291), (arI rC_steps kC_steps 18 f_297), (arI rC_below kC_below 18 fC_below), (arI rC_above kC_above 18 fC_above)]) hP hD rfl
      refine lv_aload_n hx hb dX1_addPart_101 rfl (lv_at hl 1 rfl) ?_
      refine va_get (D := (dC, dI)) (ci := 1) (v := .ref rC_below) (C := RX1) (T := TX1) (N := 19) hx hb hts inX1 hown hK hP 0 rfl rfl 15 (by decide) (hts _ wd_61) (fun _ h9 => h9) rfl dX1_addPart_102 ?_
      refine lv_aload_n hx hb dX1_addPart_105 rfl (lv_at hl 1 rfl) ?_
      refine va_get (D := (dC, dI)) (ci := 1) (v := .int iC_nodes) (C := RX1) (T := TX1) (N := 19) hx hb hts inX1 hown hK hP 0 rfl rfl 0 (by decide) (hts _ wd_215) (fun _ h9 => h9) rfl dX1_addPart_106 ?_
      refine lv_dup2_11 hx hb dX1_addPart_109 rfl rfl ?_
      refine va_iald hx hb hK hP 6 5 rfl rfl (ti_in rfl b_iC_nodes.1 (om_c3e6050f hc_271.1)) dX1_addPart_110 ?_
      refine lv_topi (fun x_298 ex_298 => ?_)
      have hG := hG.trans (lt_eq ex_298)
      have kx_298 : (fC_below iC_nodes.toNatClampNeg).toInt = x_298.toInt := by rw [ex_298]
      refine lv_aload_n hx hb dX1_addPart_111 rfl (lv_at hl 1 rfl) ?_
      refine va_get (D := (dC, dI)) (ci := 1) (v := .ref rC_below) (C := RX1) (T := TX1) (N := 19) hx hb hts inX1 hown hK hP 0 rfl rfl 15 (by decide) (hts _ wd_61) (fun _ h9 => h9) rfl dX1_addPart_112 ?_
      refine lv_iload_n hx hb dX1_addPart_115 rfl (lv_at hl 2 rfl) ?_
      refine va_iald hx hb hK hP 6 5 rfl rfl (ti_in rfl hc_274.1 (om_97cd4a7c b_iC_nodes.2 hc_274.2)) dX1_addPart_116 ?_
      refine lv_topi (fun x_299 ex_299 => ?_)
      have hG := hG.trans (lt_eq ex_299)
      have kx_299 : (fC_below p0.toNatClampNeg).toInt = x_299.toInt := by rw [ex_299]
      refine lv_ior hx hb dX1_addPart_117 ?_
      refine lv_topi (fun x_300 ex_300 => ?_)
      have hG := hG.trans (lt_eq ex_300)
      refine va_iast hx hb hK hP hD hS 6 5 rfl rfl (ti_in rfl b_iC_nodes.1 (om_c3e6050f hc_271.1)) dX1_addPart_118 (fun H locs hP hD hS => ?_)
      obtain ⟨f_302, ef_302⟩ : ∃ g : Nat → Int32, g = upd fC_below iC_nodes.toNatClampNeg x_300 := ⟨_, rfl⟩
      rw [← ef_302] at hP hD
      have hG := hG.trans (lt_eq ef_302)
      obtain ⟨hP, hD⟩ := wl2 (ws' := [(oc1 oC iC_nodes iC_words iC_chances iC_unsures iC_slips iC_throneNode iC_saidWorth iC_unit rC_kind rC_parts rC_partNodes rC_weights rC_weightSums rC_toldWorths rC_steps rC_below rC_above rC_unsureWords rC_unsureWorths), (arI rC_parts kC_parts 18 f_287), (arI rC_partNodes kC_partNodes 72 f_281), (arI rC_weights kC_weights 72 f_283), (arI rC_weightSums kC_weightSums 18 f_291), (arI rC_steps kC_steps 18 f_297), (arI rC_below kC_below 18 f_302), (arI rC_above kC_above 18 fC_above)]) hP hD rfl
      refine lv_aload_n hx hb dX1_addPart_119 rfl (lv_at hl 1 rfl) ?_
      refine va_get (D := (dC, dI)) (ci := 1) (v := .ref rC_above) (C := RX1) (T := TX1) (N := 19) hx hb hts inX1 hown hK hP 0 rfl rfl 16 (by decide) (hts _ wd_62) (fun _ h9 => h9) rfl dX1_addPart_120 ?_
      refine lv_iload_n hx hb dX1_addPart_123 rfl (lv_at hl 2 rfl) ?_
      refine lv_dup2_11 hx hb dX1_addPart_124 rfl rfl ?_
      refine va_iald hx hb hK hP 7 6 rfl rfl (ti_in rfl hc_274.1 (om_97cd4a7c b_iC_nodes.2 hc_274.2)) dX1_addPart_125 ?_
      refine lv_topi (fun x_303 ex_303 => ?_)
      have hG := hG.trans (lt_eq ex_303)
      have kx_303 : (fC_above p0.toNatClampNeg).toInt = x_303.toInt := by rw [ex_303]
      refine lv_iconst (v := 1) hx hb dX1_addPart_126 (by decide) ?_
      refine lv_aload_n hx hb dX1_addPart_127 rfl (lv_at hl 1 rfl) ?_
      refine va_get (D := (dC, dI)) (ci := 1) (v := .int iC_nodes) (C := RX1) (T := TX1) (N := 19) hx hb hts inX1 hown hK hP 0 rfl rfl 0 (by decide) (hts _ wd_215) (fun _ h9 => h9) rfl dX1_addPart_128 ?_
      refine lv_ishl hx hb dX1_addPart_131 ?_
      refine lv_topi (fun x_304 ex_304 => ?_)
      have hG := hG.trans (lt_eq ex_304)
      refine lv_ior hx hb dX1_addPart_132 ?_
      refine lv_topi (fun x_305 ex_305 => ?_)
      have hG := hG.trans (lt_eq ex_305)
      refine va_iast hx hb hK hP hD hS 7 6 rfl rfl (ti_in rfl hc_274.1 (om_97cd4a7c b_iC_nodes.2 hc_274.2)) dX1_addPart_133 (fun H locs hP hD hS => ?_)
      obtain ⟨f_307, ef_307⟩ : ∃ g : Nat → Int32, g = upd fC_above p0.toNatClampNeg x_305 := ⟨_, rfl⟩
      rw [← ef_307] at hP hD
      have hG := hG.trans (lt_eq ef_307)
      obtain ⟨hP, hD⟩ := wl2 (ws' := [(oc1 oC iC_nodes iC_words iC_chances iC_unsures iC_slips iC_throneNode iC_saidWorth iC_unit rC_kind rC_parts rC_partNodes rC_weights rC_weightSums rC_toldWorths rC_steps rC_below rC_above rC_unsureWords rC_unsureWorths), (arI rC_parts kC_parts 18 f_287), (arI rC_partNodes kC_partNodes 72 f_281), (arI rC_weights kC_weights 72 f_283), (arI rC_weightSums kC_weightSums 18 f_291), (arI rC_steps kC_steps 18 f_297), (arI rC_below kC_below 18 f_302), (arI rC_above kC_above 18 f_307)]) hP hD rfl
      exact wq_v hx hb hr 0 trivial (fun t ht hW => ⟨f_287, f_281, f_283, f_291, f_297, f_302, f_307, a_f_287, a_f_281, hG, Bw.to hP hD hK ht hW⟩) hS dX1_addPart_134 hlocks
    · skip
      have hG := hG.trans (lt_eq hru9.symm)
      have hG := hG.trans (if_neg (by decide))
      refine lv_if_eq (tgt := 134) hx hb dX1_addPart_12 (by decide) (fun _ => ?_) (fun c => absurd c (by decide))
      exact wq_v hx hb hr 0 trivial (fun t ht hW => ⟨fC_parts, fC_partNodes, fC_weights, fC_weightSums, fC_steps, fC_below, fC_above, a_fC_parts, a_fC_partNodes, hG, Bw.to hP hD hK ht hW⟩) hS dX1_addPart_134 hlocks
  · skip
    have hG := hG.trans (lt_eq hru9.symm)
    have hG := hG.trans (if_neg (by decide))
    refine lv_if_eq (tgt := 134) hx hb dX1_addPart_4 (by decide) (fun _ => ?_) (fun c => absurd c (by decide))
    exact wq_v hx hb hr 0 trivial (fun t ht hW => ⟨fC_parts, fC_partNodes, fC_weights, fC_weightSums, fC_steps, fC_below, fC_above, a_fC_parts, a_fC_partNodes, hG, Bw.to hP hD hK ht hW⟩) hS dX1_addPart_134 hlocks
set_option maxHeartbeats 4000000 in
set_option maxRecDepth 100000 in
theorem tX1_likelihood (l : Launch) (dC : Nat → ClassId) (dI : Nat → Nat → Nat) (sz : Nat) (oC : Nat) (iC_nodes : Int32) (iC_words : Int32) (iC_chances : Int32) (iC_unsures : Int32) (iC_slips : Int32) (iC_throneNode : Int32) (iC_saidWorth : Int32) (iC_unit : Int32) (rC_kind : Nat) (rC_parts : Nat) (rC_partNodes : Nat) (rC_weights : Nat) (rC_weightSums : Nat) (rC_toldWorths : Nat) (rC_steps : Nat) (rC_below : Nat) (rC_above : Nat) (rC_unsureWords : Nat) (rC_unsureWorths : Nat) (p0 : Int32) (b_iC_nodes : 0 ≤ iC_nodes.toInt ∧ iC_nodes.toInt ≤ 18) (b_iC_unsures : 0 ≤ iC_unsures.toInt ∧ iC_unsures.toInt ≤ 4) (b_iC_throneNode : (-1) ≤ iC_throneNode.toInt ∧ iC_throneNode.toInt ≤ 17)  : Met l yX1_likelihood (Cond.code yX1_likelihood cX1_likelihood 5 (some .long) :: wG) ({ frames := 0, cells := 0, slots := 0, locals := 0 }) (va_Pc [.ref oC, .int p0] (Pw dC dI sz [(oc1 oC iC_nodes iC_words iC_chances iC_unsures iC_slips iC_throneNode iC_saidWorth iC_unit rC_kind rC_parts rC_partNodes rC_weights rC_weightSums rC_toldWorths rC_steps rC_below rC_above rC_unsureWords rC_unsureWorths)] [])) (va_Ql (fun (r : Int64) (_ : Nat) => (True ∧ True) ∧ PX1_likelihood iC_unsures iC_slips p0 = r) (fun (_ : Nat) (t : State) => Bw dC dI (va_A [(oc1 oC iC_nodes iC_words iC_chances iC_unsures iC_slips iC_throneNode iC_saidWorth iC_unit rC_kind rC_parts rC_partNodes rC_weights rC_weightSums rC_toldWorths rC_steps rC_below rC_above rC_unsureWords rC_unsureWorths)] sz) [(oc1 oC iC_nodes iC_words iC_chances iC_unsures iC_slips iC_throneNode iC_saidWorth iC_unit rC_kind rC_parts rC_partNodes rC_weights rC_weightSums rC_toldWorths rC_steps rC_below rC_above rC_unsureWords rC_unsureWorths)] [] t) (va_A [(oc1 oC iC_nodes iC_words iC_chances iC_unsures iC_slips iC_throneNode iC_saidWorth iC_unit rC_kind rC_parts rC_partNodes rC_weights rC_weightSums rC_toldWorths rC_steps rC_below rC_above rC_unsureWords rC_unsureWorths)] sz)) 0 0 (va_A [(oc1 oC iC_nodes iC_words iC_chances iC_unsures iC_slips iC_throneNode iC_saidWorth iC_unit rC_kind rC_parts rC_partNodes rC_weights rC_weightSums rC_toldWorths rC_steps rC_below rC_above rC_unsureWords rC_unsureWorths)] sz) := by
  refine Met.ofW (cc := cX1_likelihood) (maxL := 5) (ret := (some .long)) pnX1 rfl ?_
  intro p e s m args below meth c s₁ B hml hv
  obtain ⟨rfl, hsz, hP, hK, hD0, hE⟩ := hv
  have hx := B.exec
  have hb := B.bytes
  have hr := B.returns
  have hts : ∀ w ∈ wG, w.before ([.ref oC, .int p0] : List Value).toArray s = true := fun w h => atoms_spec (ws := Cond.code yX1_likelihood cX1_likelihood 5 (some .long) :: wG) B.pre w (List.mem_cons_of_mem _ h)
  have hown : s.vm.findClass RX1 = some m.cls := own_of B.named rfl
  have hlocks := B.notSynchronized
  subst hsz
  have hD := hD0.self (sz := s.heap.size)
  generalize hAe : va_A [(oc1 oC iC_nodes iC_words iC_chances iC_unsures iC_slips iC_throneNode iC_saidWorth iC_unit rC_kind rC_parts rC_partNodes rC_weights rC_weightSums rC_toldWorths rC_steps rC_below rC_above rC_unsureWords rC_unsureWorths)] s.heap.size = A at hD hE ⊢
  have hA : ∀ q : Nat, s.heap.size ≤ q → A q := fun q h => by rw [← hAe]; exact Or.inr h
  have hS : va_S A s.heap s.heap [] := va_S.rf
  have hl := lv_entry ([.ref oC, .int p0]) (n := 5) (Nat.le_of_ble_eq_true rfl)
  rw [lg_entry_eq]
  generalize (lg_sl ([.ref oC, .int p0]) ++ List.replicate (5 - (lg_sl ([.ref oC, .int p0])).length) Slot.unset).toArray = ls at hl ⊢
  have hl : lv_has ls 5 [(0, .ref oC), (1, .int p0)] := hl
  have hG := PX1_likelihood_eq iC_unsures iC_slips p0
  have rg_p0 := fb_rng p0
  refine lv_lconst (v := 1) hx hb dX1_likelihood_0 (by decide) ?_
  refine lv_lstore_n (lv' := [(2, .long 1), (0, .ref oC), (1, .int p0)]) hx hb dX1_likelihood_1 rfl hl (by decide) rfl (fun ls hl => ?_)
  refine lv_iconst (v := 0) hx hb dX1_likelihood_2 (by decide) ?_
  refine lv_istore (lv' := [(4, .int 0), (2, .long 1), (0, .ref oC), (1, .int p0)]) hx hb dX1_likelihood_3 hl (by decide) rfl (fun ls hl => ?_)
  have hl := lv_sub hl (l' := [(4, .int 0), (2, .long 1), (0, .ref oC), (1, .int p0)]) [0, 1, 2, 3] rfl
  have key_n_336 : ∀ (n_336 : Nat) (z_334 : Int32) (z_335 : Int64) (H : Heap) (locs : List Loc) (ls : Array Slot), (0 ≤ z_334.toInt ∧ z_334.toInt ≤ 2147483647) → (2147483647 - z_334.toInt).toNat < n_336 → (PX1_likelihood iC_unsures iC_slips p0 = HX1_likelihood_0 iC_unsures iC_slips p0 n_336 z_334 z_335) → va_P (dC, dI) vwCl [(oc1 oC iC_nodes iC_words iC_chances iC_unsures iC_slips iC_throneNode iC_saidWorth iC_unit rC_kind rC_parts rC_partNodes rC_weights rC_weightSums rC_toldWorths rC_steps rC_below rC_above rC_unsureWords rC_unsureWorths)] H → va_D A [(oc1 oC iC_nodes iC_words iC_chances iC_unsures iC_slips iC_throneNode iC_saidWorth iC_unit rC_kind rC_parts rC_partNodes rC_weights rC_weightSums rC_toldWorths rC_steps rC_below rC_above rC_unsureWords rC_unsureWorths)] → va_S A s.heap H locs → lv_has ls 5 [(4, .int z_334), (2, .long z_335), (0, .ref oC), (1, .int p0)] → W p l e (headSpec (Cond.code yX1_likelihood cX1_likelihood 5 (some .long) :: wG) ({ frames := 0, cells := 0, slots := 0, locals := 0 })).room s m ([.ref oC, .int p0] : List Value).toArray below meth c H locs 0 0 (MQ below (va_Ql (fun (r : Int64) (_ : Nat) => (True ∧ True) ∧ PX1_likelihood iC_unsures iC_slips p0 = r) (fun (_ : Nat) (t : State) => Bw dC dI A [(oc1 oC iC_nodes iC_words iC_chances iC_unsures iC_slips iC_throneNode iC_saidWorth iC_unit rC_kind rC_parts rC_partNodes rC_weights rC_weightSums rC_toldWorths rC_steps rC_below rC_above rC_unsureWords rC_unsureWorths)] [] t) A) ([.ref oC, .int p0] : List Value).toArray s 0 0 A) (F0 m 5 ls []) := by
    intro n_336
    induction n_336 with
    | zero => intro z_334 z_335 H locs ls hi0_n_336 hm; exact absurd hm (Nat.not_lt_zero _)
    | succ n_336 ih_n_336 =>
      intro z_334 z_335 H locs ls hi0_n_336 hm_n_336 hG hP hD hS hl
      have hG := hG.trans (HX1_likelihood_0_eq _ _ _ _ _ _)
      have rg_z_334 := fb_rng z_334
      refine lv_iload hx hb dX1_likelihood_5 (lv_at hl 0 rfl) ?_
      refine lv_aload_n hx hb dX1_likelihood_7 rfl (lv_at hl 2 rfl) ?_
      refine va_get (D := (dC, dI)) (ci := 1) (v := .int iC_unsures) (C := RX1) (T := TX1) (N := 19) hx hb hts inX1 hown hK hP 0 rfl rfl 3 (by decide) (hts _ wd_218) (fun _ h9 => h9) rfl dX1_likelihood_8 ?_
      have rg_iC_unsures := fb_rng iC_unsures
      refine lv_icmp_ge (tgt := 49) hx hb dX1_likelihood_11 (by decide) (fun c_337 => ?_) (fun c_337 => ?_)
      · skip
        have hG := hG.trans (if_pos c_337)
        have gc_337 := ti_le c_337 rfl rfl
        refine lv_lload_n hx hb dX1_likelihood_49 rfl (lv_at hl 1 rfl) ?_
        exact wq_l hx hb hr 0 ⟨⟨trivial, trivial⟩, hG⟩ (fun t ht hW => Bw.to hP hD hK ht hW) hS dX1_likelihood_50 hlocks
      · skip
        have hG := hG.trans (if_neg c_337)
        have gc_337 := ti_nle c_337 rfl rfl
        refine lv_lload_n hx hb dX1_likelihood_14 rfl (lv_at hl 1 rfl) ?_
        refine lv_iload_n hx hb dX1_likelihood_15 rfl (lv_at hl 3 rfl) ?_
        refine lv_iload hx hb dX1_likelihood_16 (lv_at hl 0 rfl) ?_
        refine lv_ishr hx hb dX1_likelihood_18 ?_
        refine lv_topi (fun x_338 ex_338 => ?_)
        have hG := hG.trans (lt_eq ex_338)
        have rg_x_338 := fb_rng x_338
        refine lv_iconst (v := 1) hx hb dX1_likelihood_19 (by decide) ?_
        refine lv_iand hx hb dX1_likelihood_20 ?_
        refine lv_topi (fun x_339 ex_339 => ?_)
        have hG := hG.trans (lt_eq ex_339)
        have rg_x_339 := fb_rng x_339
        refine lv_iconst (v := 1) hx hb dX1_likelihood_21 (by decide) ?_
        refine lv_icmp_ne (tgt := 33) hx hb dX1_likelihood_22 (by decide) (fun c_340 => ?_) (fun c_340 => ?_)
        · skip
          have hG := hG.trans (if_neg c_340)
          have gc_340 := ti_ne c_340 rfl kc_1
          refine lv_bipush (v := 100) hx hb dX1_likelihood_33 (by decide) ?_
          refine lv_aload_n hx hb dX1_likelihood_35 rfl (lv_at hl 2 rfl) ?_
          refine va_get (D := (dC, dI)) (ci := 1) (v := .int iC_slips) (C := RX1) (T := TX1) (N := 19) hx hb hts inX1 hown hK hP 0 rfl rfl 4 (by decide) (hts _ wd_219) (fun _ h9 => h9) rfl dX1_likelihood_36 ?_
          have rg_iC_slips := fb_rng iC_slips
          refine lv_isub hx hb dX1_likelihood_39 ?_
          refine lv_topi (fun x_341 ex_341 => ?_)
          have hG := hG.trans (lt_eq ex_341)
          have rg_x_341 := fb_rng x_341
          obtain ⟨y_342, ey_342⟩ : ∃ z : Int64, z = (x_341 : Int32).toInt64 := ⟨_, rfl⟩
          have hG := hG.trans (lt_eq ey_342)
          refine lv_i2l (v := y_342) hx hb dX1_likelihood_40 ey_342.symm ?_
          refine lv_lmul hx hb dX1_likelihood_41 ?_
          refine lv_topl (fun y_343 ey_343 => ?_)
          have hG := hG.trans (lt_eq ey_343)
          refine lv_lstore_n (lv' := [(2, .long y_343), (4, .int z_334), (0, .ref oC), (1, .int p0)]) hx hb dX1_likelihood_42 rfl hl (by decide) rfl (fun ls hl => ?_)
          obtain ⟨x_344, ex_344⟩ : ∃ z : Int32, z = z_334 + Int32.ofInt 1 := ⟨_, rfl⟩
          have hG := hG.trans (lt_eq ex_344)
          have vx_344 : x_344.toInt = z_334.toInt + 1 := ti_add (y := 1) ex_344 rfl kc_1 (om_4e4fce7e hi0_n_336.1) (om_0ca29412 b_iC_unsures.2 gc_337)
          refine lv_iinc (v := x_344) (lv' := [(4, .int x_344), (2, .long y_343), (0, .ref oC), (1, .int p0)]) hx hb dX1_likelihood_43 hl (k := 1) rfl ex_344.symm (by decide) rfl (fun ls hl => ?_)
          refine lv_goto (tgt := 5) hx hb dX1_likelihood_46 (by decide) ?_
          exact ih_n_336 x_344 y_343 _ _ _  ⟨(om_83b90de5 hi0_n_336.1 vx_344), (om_008057e4 b_iC_unsures.2 gc_337 vx_344)⟩ (ms_lt hm_n_336 (om_b9393183 vx_344) (om_349eab4e b_iC_unsures.2 gc_337)) hG hP hD hS (lv_sub hl [0, 1, 2, 3] rfl)
        · skip
          have hG := hG.trans (if_pos c_340)
          have gc_340 := ti_eq c_340 rfl kc_1
          refine lv_aload_n hx hb dX1_likelihood_25 rfl (lv_at hl 2 rfl) ?_
          refine va_get (D := (dC, dI)) (ci := 1) (v := .int iC_slips) (C := RX1) (T := TX1) (N := 19) hx hb hts inX1 hown hK hP 0 rfl rfl 4 (by decide) (hts _ wd_219) (fun _ h9 => h9) rfl dX1_likelihood_26 ?_
          have rg_iC_slips := fb_rng iC_slips
          obtain ⟨y_345, ey_345⟩ : ∃ z : Int64, z = (iC_slips : Int32).toInt64 := ⟨_, rfl⟩
          have hG := hG.trans (lt_eq ey_345)
          refine lv_i2l (v := y_345) hx hb dX1_likelihood_29 ey_345.symm ?_
          refine lv_goto (tgt := 41) hx hb dX1_likelihood_30 (by decide) ?_
          refine lv_lmul hx hb dX1_likelihood_41 ?_
          refine lv_topl (fun y_346 ey_346 => ?_)
          have hG := hG.trans (lt_eq ey_346)
          refine lv_lstore_n (lv' := [(2, .long y_346), (4, .int z_334), (0, .ref oC), (1, .int p0)]) hx hb dX1_likelihood_42 rfl hl (by decide) rfl (fun ls hl => ?_)
          obtain ⟨x_347, ex_347⟩ : ∃ z : Int32, z = z_334 + Int32.ofInt 1 := ⟨_, rfl⟩
          have hG := hG.trans (lt_eq ex_347)
          have vx_347 : x_347.toInt = z_334.toInt + 1 := ti_add (y := 1) ex_347 rfl kc_1 (om_4e4fce7e hi0_n_336.1) (om_0ca29412 b_iC_unsures.2 gc_337)
          refine lv_iinc (v := x_347) (lv' := [(4, .int x_347), (2, .long y_346), (0, .ref oC), (1, .int p0)]) hx hb dX1_likelihood_43 hl (k := 1) rfl ex_347.symm (by decide) rfl (fun ls hl => ?_)
          refine lv_goto (tgt := 5) hx hb dX1_likelihood_46 (by decide) ?_
          exact ih_n_336 x_347 y_346 _ _ _  ⟨(om_83b90de5 hi0_n_336.1 vx_347), (om_008057e4 b_iC_unsures.2 gc_337 vx_347)⟩ (ms_lt hm_n_336 (om_b9393183 vx_347) (om_349eab4e b_iC_unsures.2 gc_337)) hG hP hD hS (lv_sub hl [0, 1, 2, 3] rfl)
  exact key_n_336 (((2147483647 - (0 : Int32).toInt).toNat) + 1) 0 1 _ _ _  ⟨(om_b1de7dbe kc_0), (om_daf17c64 kc_0)⟩ (Nat.lt_add_one _) hG hP hD hS hl
set_option maxHeartbeats 4000000 in
set_option maxRecDepth 100000 in
theorem tX1_allLikelihood (l : Launch) (dC : Nat → ClassId) (dI : Nat → Nat → Nat) (sz : Nat) (oC : Nat) (iC_nodes : Int32) (iC_words : Int32) (iC_chances : Int32) (iC_unsures : Int32) (iC_slips : Int32) (iC_throneNode : Int32) (iC_saidWorth : Int32) (iC_unit : Int32) (rC_kind : Nat) (rC_parts : Nat) (rC_partNodes : Nat) (rC_weights : Nat) (rC_weightSums : Nat) (rC_toldWorths : Nat) (rC_steps : Nat) (rC_below : Nat) (rC_above : Nat) (rC_unsureWords : Nat) (rC_unsureWorths : Nat) (b_iC_nodes : 0 ≤ iC_nodes.toInt ∧ iC_nodes.toInt ≤ 18) (b_iC_unsures : 0 ≤ iC_unsures.toInt ∧ iC_unsures.toInt ≤ 4) (b_iC_throneNode : (-1) ≤ iC_throneNode.toInt ∧ iC_throneNode.toInt ≤ 17)  : Met l yX1_allLikelihood (Cond.code yX1_allLikelihood cX1_allLikelihood 4 (some .long) :: wG) ({ frames := 0, cells := 0, slots := 0, locals := 0 }) (va_Pc [.ref oC] (Pw dC dI sz [(oc1 oC iC_nodes iC_words iC_chances iC_unsures iC_slips iC_throneNode iC_saidWorth iC_unit rC_kind rC_parts rC_partNodes rC_weights rC_weightSums rC_toldWorths rC_steps rC_below rC_above rC_unsureWords rC_unsureWorths)] [])) (va_Ql (fun (r : Int64) (_ : Nat) => (True ∧ True) ∧ PX1_allLikelihood iC_unsures = r) (fun (_ : Nat) (t : State) => Bw dC dI (va_A [(oc1 oC iC_nodes iC_words iC_chances iC_unsures iC_slips iC_throneNode iC_saidWorth iC_unit rC_kind rC_parts rC_partNodes rC_weights rC_weightSums rC_toldWorths rC_steps rC_below rC_above rC_unsureWords rC_unsureWorths)] sz) [(oc1 oC iC_nodes iC_words iC_chances iC_unsures iC_slips iC_throneNode iC_saidWorth iC_unit rC_kind rC_parts rC_partNodes rC_weights rC_weightSums rC_toldWorths rC_steps rC_below rC_above rC_unsureWords rC_unsureWorths)] [] t) (va_A [(oc1 oC iC_nodes iC_words iC_chances iC_unsures iC_slips iC_throneNode iC_saidWorth iC_unit rC_kind rC_parts rC_partNodes rC_weights rC_weightSums rC_toldWorths rC_steps rC_below rC_above rC_unsureWords rC_unsureWorths)] sz)) 0 0 (va_A [(oc1 oC iC_nodes iC_words iC_chances iC_unsures iC_slips iC_throneNode iC_saidWorth iC_unit rC_kind rC_parts rC_partNodes rC_weights rC_weightSums rC_toldWorths rC_steps rC_below rC_above rC_unsureWords rC_unsureWorths)] sz) := by
  refine Met.ofW (cc := cX1_allLikelihood) (maxL := 4) (ret := (some .long)) pnX1 rfl ?_
  intro p e s m args below meth c s₁ B hml hv
  obtain ⟨rfl, hsz, hP, hK, hD0, hE⟩ := hv
  have hx := B.exec
  have hb := B.bytes
  have hr := B.returns
  have hts : ∀ w ∈ wG, w.before ([.ref oC] : List Value).toArray s = true := fun w h => atoms_spec (ws := Cond.code yX1_allLikelihood cX1_allLikelihood 4 (some .long) :: wG) B.pre w (List.mem_cons_of_mem _ h)
  have hown : s.vm.findClass RX1 = some m.cls := own_of B.named rfl
  have hlocks := B.notSynchronized
  subst hsz
  have hD := hD0.self (sz := s.heap.size)
  generalize hAe : va_A [(oc1 oC iC_nodes iC_words iC_chances iC_unsures iC_slips iC_throneNode iC_saidWorth iC_unit rC_kind rC_parts rC_partNodes rC_weights rC_weightSums rC_toldWorths rC_steps rC_below rC_above rC_unsureWords rC_unsureWorths)] s.heap.size = A at hD hE ⊢
  have hA : ∀ q : Nat, s.heap.size ≤ q → A q := fun q h => by rw [← hAe]; exact Or.inr h
  have hS : va_S A s.heap s.heap [] := va_S.rf
  have hl := lv_entry ([.ref oC]) (n := 4) (Nat.le_of_ble_eq_true rfl)
  rw [lg_entry_eq]
  generalize (lg_sl ([.ref oC]) ++ List.replicate (4 - (lg_sl ([.ref oC])).length) Slot.unset).toArray = ls at hl ⊢
  have hl : lv_has ls 4 [(0, .ref oC)] := hl
  have hG := PX1_allLikelihood_eq iC_unsures
  refine lv_lconst (v := 1) hx hb dX1_allLikelihood_0 (by decide) ?_
  refine lv_lstore_n (lv' := [(1, .long 1), (0, .ref oC)]) hx hb dX1_allLikelihood_1 rfl hl (by decide) rfl (fun ls hl => ?_)
  refine lv_iconst (v := 0) hx hb dX1_allLikelihood_2 (by decide) ?_
  refine lv_istore_n (lv' := [(3, .int 0), (1, .long 1), (0, .ref oC)]) hx hb dX1_allLikelihood_3 rfl hl (by decide) rfl (fun ls hl => ?_)
  have hl := lv_sub hl (l' := [(3, .int 0), (1, .long 1), (0, .ref oC)]) [0, 1, 2] rfl
  have key_n_361 : ∀ (n_361 : Nat) (z_359 : Int32) (z_360 : Int64) (H : Heap) (locs : List Loc) (ls : Array Slot), (0 ≤ z_359.toInt ∧ z_359.toInt ≤ 2147483647) → (2147483647 - z_359.toInt).toNat < n_361 → (PX1_allLikelihood iC_unsures = HX1_allLikelihood_0 iC_unsures n_361 z_359 z_360) → va_P (dC, dI) vwCl [(oc1 oC iC_nodes iC_words iC_chances iC_unsures iC_slips iC_throneNode iC_saidWorth iC_unit rC_kind rC_parts rC_partNodes rC_weights rC_weightSums rC_toldWorths rC_steps rC_below rC_above rC_unsureWords rC_unsureWorths)] H → va_D A [(oc1 oC iC_nodes iC_words iC_chances iC_unsures iC_slips iC_throneNode iC_saidWorth iC_unit rC_kind rC_parts rC_partNodes rC_weights rC_weightSums rC_toldWorths rC_steps rC_below rC_above rC_unsureWords rC_unsureWorths)] → va_S A s.heap H locs → lv_has ls 4 [(3, .int z_359), (1, .long z_360), (0, .ref oC)] → W p l e (headSpec (Cond.code yX1_allLikelihood cX1_allLikelihood 4 (some .long) :: wG) ({ frames := 0, cells := 0, slots := 0, locals := 0 })).room s m ([.ref oC] : List Value).toArray below meth c H locs 0 0 (MQ below (va_Ql (fun (r : Int64) (_ : Nat) => (True ∧ True) ∧ PX1_allLikelihood iC_unsures = r) (fun (_ : Nat) (t : State) => Bw dC dI A [(oc1 oC iC_nodes iC_words iC_chances iC_unsures iC_slips iC_throneNode iC_saidWorth iC_unit rC_kind rC_parts rC_partNodes rC_weights rC_weightSums rC_toldWorths rC_steps rC_below rC_above rC_unsureWords rC_unsureWorths)] [] t) A) ([.ref oC] : List Value).toArray s 0 0 A) (F0 m 4 ls []) := by
    intro n_361
    induction n_361 with
    | zero => intro z_359 z_360 H locs ls hi0_n_361 hm; exact absurd hm (Nat.not_lt_zero _)
    | succ n_361 ih_n_361 =>
      intro z_359 z_360 H locs ls hi0_n_361 hm_n_361 hG hP hD hS hl
      have hG := hG.trans (HX1_allLikelihood_0_eq _ _ _ _)
      have rg_z_359 := fb_rng z_359
      refine lv_iload_n hx hb dX1_allLikelihood_4 rfl (lv_at hl 0 rfl) ?_
      refine lv_aload_n hx hb dX1_allLikelihood_5 rfl (lv_at hl 2 rfl) ?_
      refine va_get (D := (dC, dI)) (ci := 1) (v := .int iC_unsures) (C := RX1) (T := TX1) (N := 19) hx hb hts inX1 hown hK hP 0 rfl rfl 3 (by decide) (hts _ wd_218) (fun _ h9 => h9) rfl dX1_allLikelihood_6 ?_
      have rg_iC_unsures := fb_rng iC_unsures
      refine lv_icmp_ge (tgt := 24) hx hb dX1_allLikelihood_9 (by decide) (fun c_362 => ?_) (fun c_362 => ?_)
      · skip
        have hG := hG.trans (if_pos c_362)
        have gc_362 := ti_le c_362 rfl rfl
        refine lv_lload_n hx hb dX1_allLikelihood_24 rfl (lv_at hl 1 rfl) ?_
        exact wq_l hx hb hr 0 ⟨⟨trivial, trivial⟩, hG⟩ (fun t ht hW => Bw.to hP hD hK ht hW) hS dX1_allLikelihood_25 hlocks
      · skip
        have hG := hG.trans (if_neg c_362)
        have gc_362 := ti_nle c_362 rfl rfl
        refine lv_lload_n hx hb dX1_allLikelihood_12 rfl (lv_at hl 1 rfl) ?_
        refine lv_ldc2 hx hb hown (hts _ wd_1266) dX1_allLikelihood_13 ?_
        refine lv_lmul hx hb dX1_allLikelihood_16 ?_
        refine lv_topl (fun y_363 ey_363 => ?_)
        have hG := hG.trans (lt_eq ey_363)
        refine lv_lstore_n (lv' := [(1, .long y_363), (3, .int z_359), (0, .ref oC)]) hx hb dX1_allLikelihood_17 rfl hl (by decide) rfl (fun ls hl => ?_)
        obtain ⟨x_364, ex_364⟩ : ∃ z : Int32, z = z_359 + Int32.ofInt 1 := ⟨_, rfl⟩
        have hG := hG.trans (lt_eq ex_364)
        have vx_364 : x_364.toInt = z_359.toInt + 1 := ti_add (y := 1) ex_364 rfl kc_1 (om_4e4fce7e hi0_n_361.1) (om_0ca29412 b_iC_unsures.2 gc_362)
        refine lv_iinc (v := x_364) (lv' := [(3, .int x_364), (1, .long y_363), (0, .ref oC)]) hx hb dX1_allLikelihood_18 hl (k := 1) rfl ex_364.symm (by decide) rfl (fun ls hl => ?_)
        refine lv_goto (tgt := 4) hx hb dX1_allLikelihood_21 (by decide) ?_
        exact ih_n_361 x_364 y_363 _ _ _  ⟨(om_83b90de5 hi0_n_361.1 vx_364), (om_008057e4 b_iC_unsures.2 gc_362 vx_364)⟩ (ms_lt hm_n_361 (om_b9393183 vx_364) (om_349eab4e b_iC_unsures.2 gc_362)) hG hP hD hS (lv_sub hl [0, 1, 2] rfl)
  exact key_n_361 (((2147483647 - (0 : Int32).toInt).toNat) + 1) 0 1 _ _ _  ⟨(om_b1de7dbe kc_0), (om_daf17c64 kc_0)⟩ (Nat.lt_add_one _) hG hP hD hS hl
