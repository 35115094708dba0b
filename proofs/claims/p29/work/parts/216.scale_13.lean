set_option maxHeartbeats 4000000 in
set_option maxRecDepth 100000 in
theorem tX4_throneValue (l : Launch) (dC : Nat → ClassId) (dI : Nat → Nat → Nat) (sz : Nat) (oL : Nat) (rL_values : Nat) (fL_values : Nat → Int32) (kL_values : ClassId) (rL_supposed : Nat) (oC : Nat) (iC_nodes : Int32) (iC_words : Int32) (iC_chances : Int32) (iC_unsures : Int32) (iC_slips : Int32) (iC_throneNode : Int32) (iC_saidWorth : Int32) (iC_unit : Int32) (rC_kind : Nat) (rC_parts : Nat) (rC_partNodes : Nat) (rC_weights : Nat) (rC_weightSums : Nat) (rC_toldWorths : Nat) (rC_steps : Nat) (rC_below : Nat) (rC_above : Nat) (rC_unsureWords : Nat) (rC_unsureWorths : Nat) (b_iC_nodes : 0 ≤ iC_nodes.toInt ∧ iC_nodes.toInt ≤ 18) (b_iC_unsures : 0 ≤ iC_unsures.toInt ∧ iC_unsures.toInt ≤ 4) (b_iC_throneNode : (-1) ≤ iC_throneNode.toInt ∧ iC_throneNode.toInt ≤ 17)  : Met l yX4_throneValue (Cond.code yX4_throneValue cX4_throneValue 2 (some .int) :: wG) ({ frames := 1, cells := 0, slots := 0, locals := 21 }) (va_Pc [.ref oL, .ref oC] (Pw dC dI sz [(oc4 oL rL_values rL_supposed), (arI rL_values kL_values 18 fL_values), (oc1 oC iC_nodes iC_words iC_chances iC_unsures iC_slips iC_throneNode iC_saidWorth iC_unit rC_kind rC_parts rC_partNodes rC_weights rC_weightSums rC_toldWorths rC_steps rC_below rC_above rC_unsureWords rC_unsureWorths)] [(kL_values, .int)])) (va_Qi (fun (r : Int32) (_ : Nat) => (True ∧ True) ∧ PX4_throneValue fL_values iC_nodes iC_throneNode = r) (fun (_ : Nat) (t : State) => Bw dC dI (va_A [(oc4 oL rL_values rL_supposed), (arI rL_values kL_values 18 fL_values), (oc1 oC iC_nodes iC_words iC_chances iC_unsures iC_slips iC_throneNode iC_saidWorth iC_unit rC_kind rC_parts rC_partNodes rC_weights rC_weightSums rC_toldWorths rC_steps rC_below rC_above rC_unsureWords rC_unsureWorths)] sz) [(oc4 oL rL_values rL_supposed), (arI rL_values kL_values 18 fL_values), (oc1 oC iC_nodes iC_words iC_chances iC_unsures iC_slips iC_throneNode iC_saidWorth iC_unit rC_kind rC_parts rC_partNodes rC_weights rC_weightSums rC_toldWorths rC_steps rC_below rC_above rC_unsureWords rC_unsureWorths)] [(kL_values, .int)] t) (va_A [(oc4 oL rL_values rL_supposed), (arI rL_values kL_values 18 fL_values), (oc1 oC iC_nodes iC_words iC_chances iC_unsures iC_slips iC_throneNode iC_saidWorth iC_unit rC_kind rC_parts rC_partNodes rC_weights rC_weightSums rC_toldWorths rC_steps rC_below rC_above rC_unsureWords rC_unsureWorths)] sz)) 0 0 (va_A [(oc4 oL rL_values rL_supposed), (arI rL_values kL_values 18 fL_values), (oc1 oC iC_nodes iC_words iC_chances iC_unsures iC_slips iC_throneNode iC_saidWorth iC_unit rC_kind rC_parts rC_partNodes rC_weights rC_weightSums rC_toldWorths rC_steps rC_below rC_above rC_unsureWords rC_unsureWorths)] sz) := by
  refine Met.ofW (cc := cX4_throneValue) (maxL := 2) (ret := (some .int)) pnX4 rfl ?_
  intro p e s m args below meth c s₁ B hml hv
  obtain ⟨rfl, hsz, hP, hK, hD0, hE⟩ := hv
  have hx := B.exec
  have hb := B.bytes
  have hr := B.returns
  have hts : ∀ w ∈ wG, w.before ([.ref oL, .ref oC] : List Value).toArray s = true := fun w h => atoms_spec (ws := Cond.code yX4_throneValue cX4_throneValue 2 (some .int) :: wG) B.pre w (List.mem_cons_of_mem _ h)
  have hown : s.vm.findClass RX4 = some m.cls := own_of B.named rfl
  have hlocks := B.notSynchronized
  subst hsz
  have hD := hD0.self (sz := s.heap.size)
  generalize hAe : va_A [(oc4 oL rL_values rL_supposed), (arI rL_values kL_values 18 fL_values), (oc1 oC iC_nodes iC_words iC_chances iC_unsures iC_slips iC_throneNode iC_saidWorth iC_unit rC_kind rC_parts rC_partNodes rC_weights rC_weightSums rC_toldWorths rC_steps rC_below rC_above rC_unsureWords rC_unsureWorths)] s.heap.size = A at hD hE ⊢
  have hA : ∀ q : Nat, s.heap.size ≤ q → A q := fun q h => by rw [← hAe]; exact Or.inr h
  have hS : va_S A s.heap s.heap [] := va_S.rf
  have hl := lv_entry ([.ref oL, .ref oC]) (n := 2) (Nat.le_of_ble_eq_true rfl)
  rw [lg_entry_eq]
  generalize (lg_sl ([.ref oL, .ref oC]) ++ List.replicate (2 - (lg_sl ([.ref oL, .ref oC])).length) Slot.unset).toArray = ls at hl ⊢
  have hl : lv_has ls 2 [(0, .ref oL), (1, .ref oC)] := hl
  have hG := PX4_throneValue_eq fL_values iC_nodes iC_throneNode
  refine lv_aload_n hx hb dX4_throneValue_0 rfl (lv_at hl 1 rfl) ?_
  refine lv_aload_n hx hb dX4_throneValue_1 rfl (lv_at hl 1 rfl) ?_
  refine va_get (D := (dC, dI)) (ci := 1) (v := .int iC_throneNode) (C := RX1) (T := TX1) (N := 19) hx hb hts inX1 hown hK hP 2 rfl rfl 5 (by decide) (hts _ wd_633) (fun _ h9 => h9) rfl dX4_throneValue_2 ?_
  have hMs := ml_of hD [false, false, true] (wc := [(oc1 oC iC_nodes iC_words iC_chances iC_unsures iC_slips iC_throneNode iC_saidWorth iC_unit rC_kind rC_parts rC_partNodes rC_weights rC_weightSums rC_toldWorths rC_steps rC_below rC_above rC_unsureWords rC_unsureWorths)]) rfl
  have hFc := va_freeM hD hS hA _ hMs
  refine va_calli (va_runV (As := [.int iC_throneNode]) (rest := []) ⟨hx, hb, hml, hown, hts⟩ (tX1_hasNode l dC dI _ oC iC_nodes iC_words iC_chances iC_unsures iC_slips iC_throneNode iC_saidWorth iC_unit rC_kind rC_parts rC_partNodes rC_weights rC_weightSums rC_toldWorths rC_steps rC_below rC_above rC_unsureWords rC_unsureWorths iC_throneNode b_iC_nodes b_iC_unsures b_iC_throneNode) (cwV 1 hts (wd_V wd_634 wd_326 wd_327 wd_19 (wd_c wd_328)) rfl rfl rfl dv_yX1_hasNode_1 ⟨Nat.le_of_ble_eq_true rfl, Nat.le_of_ble_eq_true rfl⟩) ⟨Pw.fb, recvX1 hK hP (q0 := 2) rfl, fun U hU hW => Pw.to (hP.ms _ hMs) (hD.ms _ hMs) (hK.ms [false] rfl) hE hS hFc hU hW⟩ rfl rfl hl.1 rfl (lv_room (Nat.le_of_ble_eq_true rfl)) dX4_throneValue_5 ⟨Nat.le_of_ble_eq_true rfl, Nat.le_of_ble_eq_true rfl⟩) hS (fun q _ h => hFc q h) hFc (fun r u t H locs ht hvm hw hB hz1 hk1 hS => ?_)
  have hru9 := hw.2
  have hw := hw.1
  obtain ⟨hP, hD⟩ := Bw.goN (ws' := [(oc4 oL rL_values rL_supposed), (arI rL_values kL_values 18 fL_values), (oc1 oC iC_nodes iC_words iC_chances iC_unsures iC_slips iC_throneNode iC_saidWorth iC_unit rC_kind rC_parts rC_partNodes rC_weights rC_weightSums rC_toldWorths rC_steps rC_below rC_above rC_unsureWords rC_unsureWorths)]) hB rfl ht hP hD _ hMs hk1 hFc rfl
  clear hz1 hk1 hvm ht hB hMs
  rcases hw.2 with ⟨rfl, hc_758⟩ | ⟨rfl, hc_758⟩
  · skip
    have hG := hG.trans (lt_eq hru9.symm)
    have hG := hG.trans (if_pos rfl)
    refine lv_if_eq (tgt := 23) hx hb dX4_throneValue_8 (by decide) (fun c => absurd c (by decide)) (fun _ => ?_)
    refine lv_aload_n hx hb dX4_throneValue_11 rfl (lv_at hl 0 rfl) ?_
    refine va_get (D := (dC, dI)) (ci := 4) (v := .ref rL_values) (C := RX4) (T := TX4) (N := 2) hx hb hts inX4 hown hK hP 0 rfl rfl 0 (by decide) (hts _ wd_146) (fun _ h9 => h9) rfl dX4_throneValue_12 ?_
    refine lv_aload_n hx hb dX4_throneValue_15 rfl (lv_at hl 1 rfl) ?_
    refine va_get (D := (dC, dI)) (ci := 1) (v := .int iC_throneNode) (C := RX1) (T := TX1) (N := 19) hx hb hts inX1 hown hK hP 2 rfl rfl 5 (by decide) (hts _ wd_633) (fun _ h9 => h9) rfl dX4_throneValue_16 ?_
    refine va_iald hx hb hK hP 1 0 rfl rfl (ti_in rfl hc_758.1 (om_b3735a34 b_iC_throneNode.2)) dX4_throneValue_19 ?_
    refine lv_topi (fun x_761 ex_761 => ?_)
    have hG := hG.trans (lt_eq ex_761)
    have kx_761 : (fL_values iC_throneNode.toNatClampNeg).toInt = x_761.toInt := by rw [ex_761]
    refine lv_goto (tgt := 24) hx hb dX4_throneValue_20 (by decide) ?_
    exact wq_i hx hb hr 0 ⟨⟨trivial, trivial⟩, hG⟩ (fun t ht hW => Bw.to hP hD hK ht hW) hS dX4_throneValue_24 hlocks
  · skip
    have hG := hG.trans (lt_eq hru9.symm)
    have hG := hG.trans (if_neg (by decide))
    refine lv_if_eq (tgt := 23) hx hb dX4_throneValue_8 (by decide) (fun _ => ?_) (fun c => absurd c (by decide))
    refine lv_iconst (v := 0) hx hb dX4_throneValue_23 (by decide) ?_
    exact wq_i hx hb hr 0 ⟨⟨trivial, trivial⟩, hG⟩ (fun t ht hW => Bw.to hP hD hK ht hW) hS dX4_throneValue_24 hlocks
set_option maxHeartbeats 4000000 in
set_option maxRecDepth 100000 in
theorem tX4_joined (l : Launch) (dC : Nat → ClassId) (dI : Nat → Nat → Nat) (sz : Nat) (oL : Nat) (rL_values : Nat) (fL_values : Nat → Int32) (kL_values : ClassId) (rL_supposed : Nat) (oC : Nat) (iC_nodes : Int32) (iC_words : Int32) (iC_chances : Int32) (iC_unsures : Int32) (iC_slips : Int32) (iC_throneNode : Int32) (iC_saidWorth : Int32) (iC_unit : Int32) (rC_kind : Nat) (fC_kind : Nat → Int32) (kC_kind : ClassId) (rC_parts : Nat) (fC_parts : Nat → Int32) (kC_parts : ClassId) (rC_partNodes : Nat) (fC_partNodes : Nat → Int32) (kC_partNodes : ClassId) (rC_weights : Nat) (fC_weights : Nat → Int32) (kC_weights : ClassId) (rC_weightSums : Nat) (fC_weightSums : Nat → Int32) (kC_weightSums : ClassId) (rC_toldWorths : Nat) (rC_steps : Nat) (rC_below : Nat) (rC_above : Nat) (rC_unsureWords : Nat) (rC_unsureWorths : Nat) (p0 : Int32) (b_iC_nodes : 0 ≤ iC_nodes.toInt ∧ iC_nodes.toInt ≤ 18) (b_iC_unsures : 0 ≤ iC_unsures.toInt ∧ iC_unsures.toInt ≤ 4) (b_iC_throneNode : (-1) ≤ iC_throneNode.toInt ∧ iC_throneNode.toInt ≤ 17) (a_fC_parts : ∀ j : Nat, j < 18 → 0 ≤ (fC_parts j).toInt ∧ (fC_parts j).toInt ≤ 4) (a_fC_partNodes : ∀ j : Nat, j < 72 → 0 ≤ (fC_partNodes j).toInt ∧ (fC_partNodes j).toInt ≤ 17) (hp0 : 0 ≤ p0.toInt ∧ p0.toInt ≤ 17) : Met l yX4_joined (Cond.code yX4_joined cX4_joined 8 (some .int) :: wG) ({ frames := 1, cells := 0, slots := 0, locals := 21 }) (va_Pc [.ref oL, .ref oC, .int p0] (Pw dC dI sz [(oc4 oL rL_values rL_supposed), (arI rL_values kL_values 18 fL_values), (oc1 oC iC_nodes iC_words iC_chances iC_unsures iC_slips iC_throneNode iC_saidWorth iC_unit rC_kind rC_parts rC_partNodes rC_weights rC_weightSums rC_toldWorths rC_steps rC_below rC_above rC_unsureWords rC_unsureWorths), (arI rC_kind kC_kind 18 fC_kind), (arI rC_parts kC_parts 18 fC_parts), (arI rC_partNodes kC_partNodes 72 fC_partNodes), (arI rC_weights kC_weights 72 fC_weights), (arI rC_weightSums kC_weightSums 18 fC_weightSums)] [(kL_values, .int), (kC_kind, .int), (kC_parts, .int), (kC_partNodes, .int), (kC_weights, .int), (kC_weightSums, .int)])) (va_Qi (fun (r : Int32) (_ : Nat) => (True ∧ True) ∧ PX4_joined fL_values fC_kind fC_parts fC_partNodes fC_weights fC_weightSums p0 = r) (fun (_ : Nat) (t : State) => Bw dC dI (va_A [(oc4 oL rL_values rL_supposed), (arI rL_values kL_values 18 fL_values), (oc1 oC iC_nodes iC_words iC_chances iC_unsures iC_slips iC_throneNode iC_saidWorth iC_unit rC_kind rC_parts rC_partNodes rC_weights rC_weightSums rC_toldWorths rC_steps rC_below rC_above rC_unsureWords rC_unsureWorths), (arI rC_kind kC_kind 18 fC_kind), (arI rC_parts kC_parts 18 fC_parts), (arI rC_partNodes kC_partNodes 72 fC_partNodes), (arI rC_weights kC_weights 72 fC_weights), (arI rC_weightSums kC_weightSums 18 fC_weightSums)] sz) [(oc4 oL rL_values rL_supposed), (arI rL_values kL_values 18 fL_values), (oc1 oC iC_nodes iC_words iC_chances iC_unsures iC_slips iC_throneNode iC_saidWorth iC_unit rC_kind rC_parts rC_partNodes rC_weights rC_weightSums rC_toldWorths rC_steps rC_below rC_above rC_unsureWords rC_unsureWorths), (arI rC_kind kC_kind 18 fC_kind), (arI rC_parts kC_parts 18 fC_parts), (arI rC_partNodes kC_partNodes 72 fC_partNodes), (arI rC_weights kC_weights 72 fC_weights), (arI rC_weightSums kC_weightSums 18 fC_weightSums)] [(kL_values, .int), (kC_kind, .int), (kC_parts, .int), (kC_partNodes, .int), (kC_weights, .int), (kC_weightSums, .int)] t) (va_A [(oc4 oL rL_values rL_supposed), (arI rL_values kL_values 18 fL_values), (oc1 oC iC_nodes iC_words iC_chances iC_unsures iC_slips iC_throneNode iC_saidWorth iC_unit rC_kind rC_parts rC_partNodes rC_weights rC_weightSums rC_toldWorths rC_steps rC_below rC_above rC_unsureWords rC_unsureWorths), (arI rC_kind kC_kind 18 fC_kind), (arI rC_parts kC_parts 18 fC_parts), (arI rC_partNodes kC_partNodes 72 fC_partNodes), (arI rC_weights kC_weights 72 fC_weights), (arI rC_weightSums kC_weightSums 18 fC_weightSums)] sz)) 0 0 (va_A [(oc4 oL rL_values rL_supposed), (arI rL_values kL_values 18 fL_values), (oc1 oC iC_nodes iC_words iC_chances iC_unsures iC_slips iC_throneNode iC_saidWorth iC_unit rC_kind rC_parts rC_partNodes rC_weights rC_weightSums rC_toldWorths rC_steps rC_below rC_above rC_unsureWords rC_unsureWorths), (arI rC_kind kC_kind 18 fC_kind), (arI rC_parts kC_parts 18 fC_parts), (arI rC_partNodes kC_partNodes 72 fC_partNodes), (arI rC_weights kC_weights 72 fC_weights), (arI rC_weightSums kC_weightSums 18 fC_weightSums)] sz) := by
  refine Met.ofW (cc := cX4_joined) (maxL := 8) (ret := (some .int)) pnX4 rfl ?_
  intro p e s m args below meth c s₁ B hml hv
  obtain ⟨rfl, hsz, hP, hK, hD0, hE⟩ := hv
  have hx := B.exec
  have hb := B.bytes
  have hr := B.returns
  have hts : ∀ w ∈ wG, w.before ([.ref oL, .ref oC, .int p0] : List Value).toArray s = true := fun w h => atoms_spec (ws := Cond.code yX4_joined cX4_joined 8 (some .int) :: wG) B.pre w (List.mem_cons_of_mem _ h)
  have hown : s.vm.findClass RX4 = some m.cls := own_of B.named rfl
  have hlocks := B.notSynchronized
  subst hsz
  have hD := hD0.self (sz := s.heap.size)
  generalize hAe : va_A [(oc4 oL rL_values rL_supposed), (arI rL_values kL_values 18 fL_values), (oc1 oC iC_nodes iC_words iC_chances iC_unsures iC_slips iC_throneNode iC_saidWorth iC_unit rC_kind rC_parts rC_partNodes rC_weights rC_weightSums rC_toldWorths rC_steps rC_below rC_above rC_unsureWords rC_unsureWorths), (arI rC_kind kC_kind 18 fC_kind), (arI rC_parts kC_parts 18 fC_parts), (arI rC_partNodes kC_partNodes 72 fC_partNodes), (arI rC_weights kC_weights 72 fC_weights), (arI rC_weightSums kC_weightSums 18 fC_weightSums)] s.heap.size = A at hD hE ⊢
  have hA : ∀ q : Nat, s.heap.size ≤ q → A q := fun q h => by rw [← hAe]; exact Or.inr h
  have hS : va_S A s.heap s.heap [] := va_S.rf
  have hl := lv_entry ([.ref oL, .ref oC, .int p0]) (n := 8) (Nat.le_of_ble_eq_true rfl)
  rw [lg_entry_eq]
  generalize (lg_sl ([.ref oL, .ref oC, .int p0]) ++ List.replicate (8 - (lg_sl ([.ref oL, .ref oC, .int p0])).length) Slot.unset).toArray = ls at hl ⊢
  have hl : lv_has ls 8 [(0, .ref oL), (1, .ref oC), (2, .int p0)] := hl
  have hG := PX4_joined_eq fL_values fC_kind fC_parts fC_partNodes fC_weights fC_weightSums p0
  have rg_p0 := fb_rng p0
  refine lv_aload_n hx hb dX4_joined_0 rfl (lv_at hl 1 rfl) ?_
  refine va_get (D := (dC, dI)) (ci := 1) (v := .ref rC_kind) (C := RX1) (T := TX1) (N := 19) hx hb hts inX1 hown hK hP 2 rfl rfl 8 (by decide) (hts _ wd_617) (fun _ h9 => h9) rfl dX4_joined_1 ?_
  refine lv_iload_n hx hb dX4_joined_4 rfl (lv_at hl 2 rfl) ?_
  refine va_iald hx hb hK hP 3 1 rfl rfl (ti_in rfl hp0.1 (om_b3735a34 hp0.2)) dX4_joined_5 ?_
  refine lv_topi (fun x_805 ex_805 => ?_)
  have hG := hG.trans (lt_eq ex_805)
  have rg_x_805 := fb_rng x_805
  have kx_805 : (fC_kind p0.toNatClampNeg).toInt = x_805.toInt := by rw [ex_805]
  refine lv_istore_n (lv' := [(3, .int x_805), (0, .ref oL), (1, .ref oC), (2, .int p0)]) hx hb dX4_joined_6 rfl hl (by decide) rfl (fun ls hl => ?_)
  refine lv_iconst (v := 0) hx hb dX4_joined_7 (by decide) ?_
  refine lv_istore (lv' := [(4, .int 0), (3, .int x_805), (0, .ref oL), (1, .ref oC), (2, .int p0)]) hx hb dX4_joined_8 hl (by decide) rfl (fun ls hl => ?_)
  refine lv_iconst (v := 0) hx hb dX4_joined_10 (by decide) ?_
  refine lv_istore (lv' := [(5, .int 0), (4, .int 0), (3, .int x_805), (0, .ref oL), (1, .ref oC), (2, .int p0)]) hx hb dX4_joined_11 hl (by decide) rfl (fun ls hl => ?_)
  have hl := lv_sub hl (l' := [(5, .int 0), (4, .int 0), (3, .int x_805), (0, .ref oL), (1, .ref oC), (2, .int p0)]) [0, 1, 2, 3, 4, 5] rfl
  have key_n_808 : ∀ (n_808 : Nat) (z_806 : Int32) (z_807 : Int32) (H : Heap) (locs : List Loc) (ls : Array Slot), (0 ≤ z_806.toInt ∧ z_806.toInt ≤ 2147483647) → (2147483647 - z_806.toInt).toNat < n_808 → (PX4_joined fL_values fC_kind fC_parts fC_partNodes fC_weights fC_weightSums p0 = HX4_joined_0 fL_values fC_parts fC_partNodes fC_weights fC_weightSums p0 x_805 n_808 z_806 z_807) → va_P (dC, dI) vwCl [(oc4 oL rL_values rL_supposed), (arI rL_values kL_values 18 fL_values), (oc1 oC iC_nodes iC_words iC_chances iC_unsures iC_slips iC_throneNode iC_saidWorth iC_unit rC_kind rC_parts rC_partNodes rC_weights rC_weightSums rC_toldWorths rC_steps rC_below rC_above rC_unsureWords rC_unsureWorths), (arI rC_kind kC_kind 18 fC_kind), (arI rC_parts kC_parts 18 fC_parts), (arI rC_partNodes kC_partNodes 72 fC_partNodes), (arI rC_weights kC_weights 72 fC_weights), (arI rC_weightSums kC_weightSums 18 fC_weightSums)] H → va_D A [(oc4 oL rL_values rL_supposed), (arI rL_values kL_values 18 fL_values), (oc1 oC iC_nodes iC_words iC_chances iC_unsures iC_slips iC_throneNode iC_saidWorth iC_unit rC_kind rC_parts rC_partNodes rC_weights rC_weightSums rC_toldWorths rC_steps rC_below rC_above rC_unsureWords rC_unsureWorths), (arI rC_kind kC_kind 18 fC_kind), (arI rC_parts kC_parts 18 fC_parts), (arI rC_partNodes kC_partNodes 72 fC_partNodes), (arI rC_weights kC_weights 72 fC_weights), (arI rC_weightSums kC_weightSums 18 fC_weightSums)] → va_S A s.heap H locs → lv_has ls 8 [(5, .int z_806), (4, .int z_807), (3, .int x_805), (0, .ref oL), (1, .ref oC), (2, .int p0)] → W p l e (headSpec (Cond.code yX4_joined cX4_joined 8 (some .int) :: wG) ({ frames := 1, cells := 0, slots := 0, locals := 21 })).room s m ([.ref oL, .ref oC, .int p0] : List Value).toArray below meth c H locs 0 0 (MQ below (va_Qi (fun (r : Int32) (_ : Nat) => (True ∧ True) ∧ PX4_joined fL_values fC_kind fC_parts fC_partNodes fC_weights fC_weightSums p0 = r) (fun (_ : Nat) (t : State) => Bw dC dI A [(oc4 oL rL_values rL_supposed), (arI rL_values kL_values 18 fL_values), (oc1 oC iC_nodes iC_words iC_chances iC_unsures iC_slips iC_throneNode iC_saidWorth iC_unit rC_kind rC_parts rC_partNodes rC_weights rC_weightSums rC_toldWorths rC_steps rC_below rC_above rC_unsureWords rC_unsureWorths), (arI rC_kind kC_kind 18 fC_kind), (arI rC_parts kC_parts 18 fC_parts), (arI rC_partNodes kC_partNodes 72 fC_partNodes), (arI rC_weights kC_weights 72 fC_weights), (arI rC_weightSums kC_weightSums 18 fC_weightSums)] [(kL_values, .int), (kC_kind, .int), (kC_parts, .int), (kC_partNodes, .int), (kC_weights, .int), (kC_weightSums, .int)] t) A) ([.ref oL, .ref oC, .int p0] : List Value).toArray s 0 0 A) (F0 m 13 ls []) := by
    intro n_808
    induction n_808 with
    | zero => intro z_806 z_807 H locs ls hi0_n_808 hm; exact absurd hm (Nat.not_lt_zero _)
    | succ n_808 ih_n_808 =>
      intro z_806 z_807 H locs ls hi0_n_808 hm_n_808 hG hP hD hS hl
      have hG := hG.trans (HX4_joined_0_eq _ _ _ _ _ _ _ _ _ _)
      have rg_z_806 := fb_rng z_806
      have rg_z_807 := fb_rng z_807
      refine lv_iload hx hb dX4_joined_13 (lv_at hl 0 rfl) ?_
      refine lv_aload_n hx hb dX4_joined_15 rfl (lv_at hl 4 rfl) ?_
      refine va_get (D := (dC, dI)) (ci := 1) (v := .ref rC_parts) (C := RX1) (T := TX1) (N := 19) hx hb hts inX1 hown hK hP 2 rfl rfl 9 (by decide) (hts _ wd_623) (fun _ h9 => h9) rfl dX4_joined_16 ?_
      refine lv_iload_n hx hb dX4_joined_19 rfl (lv_at hl 5 rfl) ?_
      refine va_iald hx hb hK hP 4 2 rfl rfl (ti_in rfl hp0.1 (om_b3735a34 hp0.2)) dX4_joined_20 ?_
      refine lv_topi (fun x_809 ex_809 => ?_)
      have hG := hG.trans (lt_eq ex_809)
      have rg_x_809 := fb_rng x_809
      have kx_809 : (fC_parts p0.toNatClampNeg).toInt = x_809.toInt := by rw [ex_809]
      have ux_809 := a_fC_parts p0.toNatClampNeg (cl_lt rfl hp0.1 (om_b3735a34 hp0.2))
      rw [show fC_parts p0.toNatClampNeg = x_809 from ex_809.symm] at ux_809
      refine lv_icmp_ge (tgt := 106) hx hb dX4_joined_21 (by decide) (fun c_810 => ?_) (fun c_810 => ?_)
      · skip
        have hG := hG.trans (if_pos c_810)
        have gc_810 := ti_le c_810 rfl rfl
        refine lv_iload_n hx hb dX4_joined_106 rfl (lv_at hl 2 rfl) ?_
        refine lv_iconst (v := 3) hx hb dX4_joined_107 (by decide) ?_
        refine lv_icmp_ne (tgt := 125) hx hb dX4_joined_108 (by decide) (fun c_811 => ?_) (fun c_811 => ?_)
        · skip
          have hG := hG.trans (if_neg c_811)
          have gc_811 := ti_ne c_811 rfl kc_3
          refine lv_iload hx hb dX4_joined_125 (lv_at hl 1 rfl) ?_
          exact wq_i hx hb hr 0 ⟨⟨trivial, trivial⟩, hG⟩ (fun t ht hW => Bw.to hP hD hK ht hW) hS dX4_joined_127 hlocks
        · skip
          have hG := hG.trans (if_pos c_811)
          have gc_811 := ti_eq c_811 rfl kc_3
          refine lv_iload hx hb dX4_joined_111 (lv_at hl 1 rfl) ?_
          refine lv_aload_n hx hb dX4_joined_113 rfl (lv_at hl 4 rfl) ?_
          refine va_get (D := (dC, dI)) (ci := 1) (v := .ref rC_weightSums) (C := RX1) (T := TX1) (N := 19) hx hb hts inX1 hown hK hP 2 rfl rfl 12 (by decide) (hts _ wd_626) (fun _ h9 => h9) rfl dX4_joined_114 ?_
          refine lv_iload_n hx hb dX4_joined_117 rfl (lv_at hl 5 rfl) ?_
          refine va_iald hx hb hK hP 7 5 rfl rfl (ti_in rfl hp0.1 (om_b3735a34 hp0.2)) dX4_joined_118 ?_
          refine lv_topi (fun x_812 ex_812 => ?_)
          have hG := hG.trans (lt_eq ex_812)
          have rg_x_812 := fb_rng x_812
          have kx_812 : (fC_weightSums p0.toNatClampNeg).toInt = x_812.toInt := by rw [ex_812]
          have hFc : ∀ q, va_A [] _ q → A q := fun q h => hA q (Nat.le_trans hS.1 (va_nilA h))
          refine va_calli (va_runSN (As := [.int z_807, .int x_812]) (rest := []) ⟨hx, hb, hml, hown, hts⟩ (tX6_wholeOf l dC dI _ z_807 x_812 ) ⟨va_cnB 2 hts (wd_c wd_628) rfl rfl rfl (hE.2.2.2.1 _ (List.mem_of_getElem? (i := 4) rfl)) (hts _ wd_2) (by decide +kernel) ⟨Nat.le_of_ble_eq_true rfl, Nat.le_of_ble_eq_true rfl⟩, hts _ wd_627, trivial⟩ ⟨Pw.fb, fun U hU hW => Pn.to hK hE hS hA hU hW⟩ rfl rfl hl.1 rfl (lv_room (Nat.le_of_ble_eq_true rfl)) dX4_joined_119 ⟨Nat.le_of_ble_eq_true rfl, Nat.le_of_ble_eq_true rfl⟩) hS (fun q _ h => hFc q h) hFc (fun r u t H locs ht hvm hw hB hz1 hk1 hS => ?_)
          obtain ⟨hP, hD, hK⟩ := Bw.same ht hvm hP hD hK hk1 hFc
          clear hz1 hk1 hvm ht hB
          have hq9 := hw.2
          have hw := hw.1
          obtain ⟨x_813, rfl⟩ : ∃ z, z = r := ⟨_, rfl⟩
          have hq_x_813 := hq9
          have hG := hG.trans (lt_eq hq_x_813.symm)
          have rg_x_813 := fb_rng x_813
          refine lv_goto (tgt := 127) hx hb dX4_joined_122 (by decide) ?_
          exact wq_i hx hb hr 0 ⟨⟨trivial, trivial⟩, hG⟩ (fun t ht hW => Bw.to hP hD hK ht hW) hS dX4_joined_127 hlocks
      · skip
        have hG := hG.trans (if_neg c_810)
        have gc_810 := ti_nle c_810 rfl rfl
        refine lv_iload_n hx hb dX4_joined_24 rfl (lv_at hl 5 rfl) ?_
        refine lv_iconst (v := 4) hx hb dX4_joined_25 (by decide) ?_
        refine lv_imul hx hb dX4_joined_26 ?_
        refine lv_topi (fun x_814 ex_814 => ?_)
        have hG := hG.trans (lt_eq ex_814)
        have vx_814 : x_814.toInt = 4 * p0.toInt := by have q := ti_mul ex_814 rfl kc_4 (by omega) (by omega); omega
        refine lv_iload hx hb dX4_joined_27 (lv_at hl 0 rfl) ?_
        refine lv_iadd hx hb dX4_joined_29 ?_
        refine lv_topi (fun x_815 ex_815 => ?_)
        have hG := hG.trans (lt_eq ex_815)
        have vx_815 : x_815.toInt = 4 * p0.toInt + z_806.toInt := om_5d0caf0f (ti_add ex_815 vx_814 rfl (om_056a216f hp0.1 hi0_n_808.1) (om_be3e613d hp0.2 ux_809.2 gc_810))
        refine lv_istore (lv' := [(6, .int x_815), (5, .int z_806), (4, .int z_807), (3, .int x_805), (0, .ref oL), (1, .ref oC), (2, .int p0)]) hx hb dX4_joined_30 hl (by decide) rfl (fun ls hl => ?_)
        refine lv_aload_n hx hb dX4_joined_32 rfl (lv_at hl 4 rfl) ?_
        refine va_get (D := (dC, dI)) (ci := 4) (v := .ref rL_values) (C := RX4) (T := TX4) (N := 2) hx hb hts inX4 hown hK hP 0 rfl rfl 0 (by decide) (hts _ wd_146) (fun _ h9 => h9) rfl dX4_joined_33 ?_
        refine lv_aload_n hx hb dX4_joined_36 rfl (lv_at hl 5 rfl) ?_
        refine va_get (D := (dC, dI)) (ci := 1) (v := .ref rC_partNodes) (C := RX1) (T := TX1) (N := 19) hx hb hts inX1 hown hK hP 2 rfl rfl 10 (by decide) (hts _ wd_624) (fun _ h9 => h9) rfl dX4_joined_37 ?_
        refine lv_iload hx hb dX4_joined_40 (lv_at hl 0 rfl) ?_
        refine va_iald hx hb hK hP 5 3 rfl rfl (ti_in vx_815 (om_fc2812d4 hp0.1 hi0_n_808.1) (om_b7e30450 hp0.2 ux_809.2 gc_810)) dX4_joined_42 ?_
        refine lv_topi (fun x_816 ex_816 => ?_)
        have hG := hG.trans (lt_eq ex_816)
        have rg_x_816 := fb_rng x_816
        have kx_816 : (fC_partNodes x_815.toNatClampNeg).toInt = x_816.toInt := by rw [ex_816]
        have ux_816 := a_fC_partNodes x_815.toNatClampNeg (cl_lt vx_815 (om_fc2812d4 hp0.1 hi0_n_808.1) (om_b7e30450 hp0.2 ux_809.2 gc_810))
        rw [show fC_partNodes x_815.toNatClampNeg = x_816 from ex_816.symm] at ux_816
        refine va_iald hx hb hK hP 1 0 rfl rfl (ti_in rfl ux_816.1 (om_b3735a34 ux_816.2)) dX4_joined_43 ?_
        refine lv_topi (fun x_817 ex_817 => ?_)
        have hG := hG.trans (lt_eq ex_817)
        have rg_x_817 := fb_rng x_817
        have kx_817 : (fL_values x_816.toNatClampNeg).toInt = x_817.toInt := by rw [ex_817]
        refine lv_istore (lv' := [(7, .int x_817), (6, .int x_815), (5, .int z_806), (4, .int z_807), (3, .int x_805), (0, .ref oL), (1, .ref oC), (2, .int p0)]) hx hb dX4_joined_44 hl (by decide) rfl (fun ls hl => ?_)
        refine lv_iload_n hx hb dX4_joined_46 rfl (lv_at hl 4 rfl) ?_
        refine lv_iconst (v := 3) hx hb dX4_joined_47 (by decide) ?_
        refine lv_icmp_ne (tgt := 69) hx hb dX4_joined_48 (by decide) (fun c_818 => ?_) (fun c_818 => ?_)
        · skip
          have hG := hG.trans (if_neg c_818)
          have gc_818 := ti_ne c_818 rfl kc_3
          refine lv_iload hx hb dX4_joined_69 (lv_at hl 2 rfl) ?_
          refine lv_if_eq (tgt := 96) hx hb dX4_joined_71 (by decide) (fun c_819 => ?_) (fun c_819 => ?_)
          · skip
            have hG := hG.trans (if_pos c_819)
            have gc_819 := ti_eq c_819 rfl kc_0
            refine lv_iload hx hb dX4_joined_96 (lv_at hl 0 rfl) ?_
            refine lv_istore (lv' := [(4, .int x_817), (7, .int x_817), (6, .int x_815), (5, .int z_806), (3, .int x_805), (0, .ref oL), (1, .ref oC), (2, .int p0)]) hx hb dX4_joined_98 hl (by decide) rfl (fun ls hl => ?_)
            obtain ⟨x_820, ex_820⟩ : ∃ z : Int32, z = z_806 + Int32.ofInt 1 := ⟨_, rfl⟩
            have hG := hG.trans (lt_eq ex_820)
            have vx_820 : x_820.toInt = z_806.toInt + 1 := ti_add (y := 1) ex_820 rfl kc_1 (om_4e4fce7e hi0_n_808.1) (om_f4fb5b9a gc_819)
            refine lv_iinc (v := x_820) (lv' := [(5, .int x_820), (4, .int x_817), (7, .int x_817), (6, .int x_815), (3, .int x_805), (0, .ref oL), (1, .ref oC), (2, .int p0)]) hx hb dX4_joined_100 hl (k := 3) rfl ex_820.symm (by decide) rfl (fun ls hl => ?_)
            refine lv_goto (tgt := 13) hx hb dX4_joined_103 (by decide) ?_
            exact ih_n_808 x_820 x_817 _ _ _  ⟨(om_83b90de5 hi0_n_808.1 vx_820), (om_b8edbab1 gc_819 vx_820)⟩ (ms_lt hm_n_808 (om_b9393183 vx_820) (om_ec9d7b39 gc_819)) hG hP hD hS (lv_sub hl [0, 1, 4, 5, 6, 7] rfl)
          · skip
            have hG := hG.trans (if_neg c_819)
            have gc_819 := ti_ne c_819 rfl kc_0
            refine lv_iload_n hx hb dX4_joined_74 rfl (lv_at hl 4 rfl) ?_
            refine lv_iconst (v := 1) hx hb dX4_joined_75 (by decide) ?_
            refine lv_icmp_ne (tgt := 89) hx hb dX4_joined_76 (by decide) (fun c_821 => ?_) (fun c_821 => ?_)
            · skip
              have hG := hG.trans (if_neg c_821)
              have gc_821 := ti_ne c_821 rfl kc_1
              refine lv_iload hx hb dX4_joined_89 (lv_at hl 0 rfl) ?_
              refine lv_iload hx hb dX4_joined_91 (lv_at hl 3 rfl) ?_
              refine lv_icmp_ge (tgt := 100) hx hb dX4_joined_93 (by decide) (fun c_822 => ?_) (fun c_822 => ?_)
              · skip
                have hG := hG.trans (if_pos c_822)
                have gc_822 := ti_le c_822 rfl rfl
                obtain ⟨x_823, ex_823⟩ : ∃ z : Int32, z = z_806 + Int32.ofInt 1 := ⟨_, rfl⟩
                have hG := hG.trans (lt_eq ex_823)
                have vx_823 : x_823.toInt = z_806.toInt + 1 := ti_add (y := 1) ex_823 rfl kc_1 (om_4e4fce7e hi0_n_808.1) (om_0ca29412 ux_809.2 gc_810)
                refine lv_iinc (v := x_823) (lv' := [(5, .int x_823), (7, .int x_817), (6, .int x_815), (4, .int z_807), (3, .int x_805), (0, .ref oL), (1, .ref oC), (2, .int p0)]) hx hb dX4_joined_100 hl (k := 2) rfl ex_823.symm (by decide) rfl (fun ls hl => ?_)
                refine lv_goto (tgt := 13) hx hb dX4_joined_103 (by decide) ?_
                exact ih_n_808 x_823 z_807 _ _ _  ⟨(om_83b90de5 hi0_n_808.1 vx_823), (om_008057e4 ux_809.2 gc_810 vx_823)⟩ (ms_lt hm_n_808 (om_b9393183 vx_823) (om_349eab4e ux_809.2 gc_810)) hG hP hD hS (lv_sub hl [0, 3, 4, 5, 6, 7] rfl)
              · skip
                have hG := hG.trans (if_neg c_822)
                have gc_822 := ti_nle c_822 rfl rfl
                refine lv_iload hx hb dX4_joined_96 (lv_at hl 0 rfl) ?_
                refine lv_istore (lv' := [(4, .int x_817), (7, .int x_817), (6, .int x_815), (5, .int z_806), (3, .int x_805), (0, .ref oL), (1, .ref oC), (2, .int p0)]) hx hb dX4_joined_98 hl (by decide) rfl (fun ls hl => ?_)
                obtain ⟨x_824, ex_824⟩ : ∃ z : Int32, z = z_806 + Int32.ofInt 1 := ⟨_, rfl⟩
                have hG := hG.trans (lt_eq ex_824)
                have vx_824 : x_824.toInt = z_806.toInt + 1 := ti_add (y := 1) ex_824 rfl kc_1 (om_4e4fce7e hi0_n_808.1) (om_0ca29412 ux_809.2 gc_810)
                refine lv_iinc (v := x_824) (lv' := [(5, .int x_824), (4, .int x_817), (7, .int x_817), (6, .int x_815), (3, .int x_805), (0, .ref oL), (1, .ref oC), (2, .int p0)]) hx hb dX4_joined_100 hl (k := 3) rfl ex_824.symm (by decide) rfl (fun ls hl => ?_)
                refine lv_goto (tgt := 13) hx hb dX4_joined_103 (by decide) ?_
                exact ih_n_808 x_824 x_817 _ _ _  ⟨(om_83b90de5 hi0_n_808.1 vx_824), (om_008057e4 ux_809.2 gc_810 vx_824)⟩ (ms_lt hm_n_808 (om_b9393183 vx_824) (om_349eab4e ux_809.2 gc_810)) hG hP hD hS (lv_sub hl [0, 1, 4, 5, 6, 7] rfl)
            · skip
              have hG := hG.trans (if_pos c_821)
              have gc_821 := ti_eq c_821 rfl kc_1
              refine lv_iload hx hb dX4_joined_79 (lv_at hl 0 rfl) ?_
              refine lv_iload hx hb dX4_joined_81 (lv_at hl 3 rfl) ?_
              refine lv_icmp_le (tgt := 100) hx hb dX4_joined_83 (by decide) (fun c_825 => ?_) (fun c_825 => ?_)
              · skip
                have hG := hG.trans (if_pos c_825)
                have gc_825 := ti_le c_825 rfl rfl
                obtain ⟨x_826, ex_826⟩ : ∃ z : Int32, z = z_806 + Int32.ofInt 1 := ⟨_, rfl⟩
                have hG := hG.trans (lt_eq ex_826)
                have vx_826 : x_826.toInt = z_806.toInt + 1 := ti_add (y := 1) ex_826 rfl kc_1 (om_4e4fce7e hi0_n_808.1) (om_0ca29412 ux_809.2 gc_810)
                refine lv_iinc (v := x_826) (lv' := [(5, .int x_826), (7, .int x_817), (6, .int x_815), (4, .int z_807), (3, .int x_805), (0, .ref oL), (1, .ref oC), (2, .int p0)]) hx hb dX4_joined_100 hl (k := 2) rfl ex_826.symm (by decide) rfl (fun ls hl => ?_)
                refine lv_goto (tgt := 13) hx hb dX4_joined_103 (by decide) ?_
                exact ih_n_808 x_826 z_807 _ _ _  ⟨(om_83b90de5 hi0_n_808.1 vx_826), (om_008057e4 ux_809.2 gc_810 vx_826)⟩ (ms_lt hm_n_808 (om_b9393183 vx_826) (om_349eab4e ux_809.2 gc_810)) hG hP hD hS (lv_sub hl [0, 3, 4, 5, 6, 7] rfl)
              · skip
                have hG := hG.trans (if_neg c_825)
                have gc_825 := ti_nle c_825 rfl rfl
                refine lv_goto (tgt := 96) hx hb dX4_joined_86 (by decide) ?_
                refine lv_iload hx hb dX4_joined_96 (lv_at hl 0 rfl) ?_
                refine lv_istore (lv' := [(4, .int x_817), (7, .int x_817), (6, .int x_815), (5, .int z_806), (3, .int x_805), (0, .ref oL), (1, .ref oC), (2, .int p0)]) hx hb dX4_joined_98 hl (by decide) rfl (fun ls hl => ?_)
                obtain ⟨x_827, ex_827⟩ : ∃ z : Int32, z = z_806 + Int32.ofInt 1 := ⟨_, rfl⟩
                have hG := hG.trans (lt_eq ex_827)
                have vx_827 : x_827.toInt = z_806.toInt + 1 := ti_add (y := 1) ex_827 rfl kc_1 (om_4e4fce7e hi0_n_808.1) (om_0ca29412 ux_809.2 gc_810)
                refine lv_iinc (v := x_827) (lv' := [(5, .int x_827), (4, .int x_817), (7, .int x_817), (6, .int x_815), (3, .int x_805), (0, .ref oL), (1, .ref oC), (2, .int p0)]) hx hb dX4_joined_100 hl (k := 3) rfl ex_827.symm (by decide) rfl (fun ls hl => ?_)
                refine lv_goto (tgt := 13) hx hb dX4_joined_103 (by decide) ?_
                exact ih_n_808 x_827 x_817 _ _ _  ⟨(om_83b90de5 hi0_n_808.1 vx_827), (om_008057e4 ux_809.2 gc_810 vx_827)⟩ (ms_lt hm_n_808 (om_b9393183 vx_827) (om_349eab4e ux_809.2 gc_810)) hG hP hD hS (lv_sub hl [0, 1, 4, 5, 6, 7] rfl)
        · skip
          have hG := hG.trans (if_pos c_818)
          have gc_818 := ti_eq c_818 rfl kc_3
          refine lv_iload hx hb dX4_joined_51 (lv_at hl 3 rfl) ?_
          refine lv_iload hx hb dX4_joined_53 (lv_at hl 0 rfl) ?_
          refine lv_aload_n hx hb dX4_joined_55 rfl (lv_at hl 6 rfl) ?_
          refine va_get (D := (dC, dI)) (ci := 1) (v := .ref rC_weights) (C := RX1) (T := TX1) (N := 19) hx hb hts inX1 hown hK hP 2 rfl rfl 11 (by decide) (hts _ wd_625) (fun _ h9 => h9) rfl dX4_joined_56 ?_
          refine lv_iload hx hb dX4_joined_59 (lv_at hl 1 rfl) ?_
          refine va_iald hx hb hK hP 6 4 rfl rfl (ti_in vx_815 (om_fc2812d4 hp0.1 hi0_n_808.1) (om_b7e30450 hp0.2 ux_809.2 gc_810)) dX4_joined_61 ?_
          refine lv_topi (fun x_828 ex_828 => ?_)
          have hG := hG.trans (lt_eq ex_828)
          have rg_x_828 := fb_rng x_828
          have kx_828 : (fC_weights x_815.toNatClampNeg).toInt = x_828.toInt := by rw [ex_828]
          refine lv_imul hx hb dX4_joined_62 ?_
          refine lv_topi (fun x_829 ex_829 => ?_)
          have hG := hG.trans (lt_eq ex_829)
          have rg_x_829 := fb_rng x_829
          refine lv_iadd hx hb dX4_joined_63 ?_
          refine lv_topi (fun x_830 ex_830 => ?_)
          have hG := hG.trans (lt_eq ex_830)
          have rg_x_830 := fb_rng x_830
          refine lv_istore (lv' := [(4, .int x_830), (7, .int x_817), (6, .int x_815), (5, .int z_806), (3, .int x_805), (0, .ref oL), (1, .ref oC), (2, .int p0)]) hx hb dX4_joined_64 hl (by decide) rfl (fun ls hl => ?_)
          refine lv_goto (tgt := 100) hx hb dX4_joined_66 (by decide) ?_
          obtain ⟨x_831, ex_831⟩ : ∃ z : Int32, z = z_806 + Int32.ofInt 1 := ⟨_, rfl⟩
          have hG := hG.trans (lt_eq ex_831)
          have vx_831 : x_831.toInt = z_806.toInt + 1 := ti_add (y := 1) ex_831 rfl kc_1 (om_4e4fce7e hi0_n_808.1) (om_0ca29412 ux_809.2 gc_810)
          refine lv_iinc (v := x_831) (lv' := [(5, .int x_831), (4, .int x_830), (7, .int x_817), (6, .int x_815), (3, .int x_805), (0, .ref oL), (1, .ref oC), (2, .int p0)]) hx hb dX4_joined_100 hl (k := 3) rfl ex_831.symm (by decide) rfl (fun ls hl => ?_)
          refine lv_goto (tgt := 13) hx hb dX4_joined_103 (by decide) ?_
          exact ih_n_808 x_831 x_830 _ _ _  ⟨(om_83b90de5 hi0_n_808.1 vx_831), (om_008057e4 ux_809.2 gc_810 vx_831)⟩ (ms_lt hm_n_808 (om_b9393183 vx_831) (om_349eab4e ux_809.2 gc_810)) hG hP hD hS (lv_sub hl [0, 1, 4, 5, 6, 7] rfl)
  exact key_n_808 (((2147483647 - (0 : Int32).toInt).toNat) + 1) 0 0 _ _ _  ⟨(om_b1de7dbe kc_0), (om_daf17c64 kc_0)⟩ (Nat.lt_add_one _) hG hP hD hS hl
set_option maxHeartbeats 4000000 in
set_option maxRecDepth 100000 in
theorem tX4_weighAll (l : Launch) (dC : Nat → ClassId) (dI : Nat → Nat → Nat) (sz : Nat) (oL : Nat) (rL_values : Nat) (fL_values : Nat → Int32) (kL_values : ClassId) (rL_supposed : Nat) (oC : Nat) (iC_nodes : Int32) (iC_words : Int32) (iC_chances : Int32) (iC_unsures : Int32) (iC_slips : Int32) (iC_throneNode : Int32) (iC_saidWorth : Int32) (iC_unit : Int32) (rC_kind : Nat) (fC_kind : Nat → Int32) (kC_kind : ClassId) (rC_parts : Nat) (fC_parts : Nat → Int32) (kC_parts : ClassId) (rC_partNodes : Nat) (fC_partNodes : Nat → Int32) (kC_partNodes : ClassId) (rC_weights : Nat) (fC_weights : Nat → Int32) (kC_weights : ClassId) (rC_weightSums : Nat) (fC_weightSums : Nat → Int32) (kC_weightSums : ClassId) (rC_toldWorths : Nat) (rC_steps : Nat) (rC_below : Nat) (rC_above : Nat) (rC_unsureWords : Nat) (rC_unsureWorths : Nat) (rW : Nat) (fW : Nat → Int32) (kW : ClassId) (b_iC_nodes : 0 ≤ iC_nodes.toInt ∧ iC_nodes.toInt ≤ 18) (b_iC_unsures : 0 ≤ iC_unsures.toInt ∧ iC_unsures.toInt ≤ 4) (b_iC_throneNode : (-1) ≤ iC_throneNode.toInt ∧ iC_throneNode.toInt ≤ 17) (a_fC_parts : ∀ j : Nat, j < 18 → 0 ≤ (fC_parts j).toInt ∧ (fC_parts j).toInt ≤ 4) (a_fC_partNodes : ∀ j : Nat, j < 72 → 0 ≤ (fC_partNodes j).toInt ∧ (fC_partNodes j).toInt ≤ 17)  : Met l yX4_weighAll (Cond.code yX4_weighAll cX4_weighAll 4 (some .int) :: wG) ({ frames := 2, cells := 0, slots := 0, locals := 48 }) (va_Pc [.ref oL, .ref oC, .ref rW] (Pw dC dI sz [(oc4 oL rL_values rL_supposed), (arI rL_values kL_values 18 fL_values), (oc1 oC iC_nodes iC_words iC_chances iC_unsures iC_slips iC_throneNode iC_saidWorth iC_unit rC_kind rC_parts rC_partNodes rC_weights rC_weightSums rC_toldWorths rC_steps rC_below rC_above rC_unsureWords rC_unsureWorths), (arI rC_kind kC_kind 18 fC_kind), (arI rC_parts kC_parts 18 fC_parts), (arI rC_partNodes kC_partNodes 72 fC_partNodes), (arI rC_weights kC_weights 72 fC_weights), (arI rC_weightSums kC_weightSums 18 fC_weightSums), (arI rW kW 18 fW)] [(kL_values, .int), (kC_kind, .int), (kC_parts, .int), (kC_partNodes, .int), (kC_weights, .int), (kC_weightSums, .int), (kW, .int)])) (va_Qi (fun (r : Int32) (u : Nat) => (True ∧ True) ∧ r = Int32.ofNat u) (fun (u : Nat) (t : State) => ∃ (nfL_values : Nat → Int32), (PX4_weighAll fL_values iC_nodes iC_throneNode iC_unit fC_kind fC_parts fC_partNodes fC_weights fC_weightSums fW = (Int32.ofNat u, nfL_values)) ∧ Bw dC dI (va_A [(oc4 oL rL_values rL_supposed), (arI rL_values kL_values 18 fL_values), (oc1 oC iC_nodes iC_words iC_chances iC_unsures iC_slips iC_throneNode iC_saidWorth iC_unit rC_kind rC_parts rC_partNodes rC_weights rC_weightSums rC_toldWorths rC_steps rC_below rC_above rC_unsureWords rC_unsureWorths), (arI rC_kind kC_kind 18 fC_kind), (arI rC_parts kC_parts 18 fC_parts), (arI rC_partNodes kC_partNodes 72 fC_partNodes), (arI rC_weights kC_weights 72 fC_weights), (arI rC_weightSums kC_weightSums 18 fC_weightSums), (arI rW kW 18 fW)] sz) [(oc4 oL rL_values rL_supposed), (arI rL_values kL_values 18 nfL_values), (oc1 oC iC_nodes iC_words iC_chances iC_unsures iC_slips iC_throneNode iC_saidWorth iC_unit rC_kind rC_parts rC_partNodes rC_weights rC_weightSums rC_toldWorths rC_steps rC_below rC_above rC_unsureWords rC_unsureWorths), (arI rC_kind kC_kind 18 fC_kind), (arI rC_parts kC_parts 18 fC_parts), (arI rC_partNodes kC_partNodes 72 fC_partNodes), (arI rC_weights kC_weights 72 fC_weights), (arI rC_weightSums kC_weightSums 18 fC_weightSums), (arI rW kW 18 fW)] [(kL_values, .int), (kC_kind, .int), (kC_parts, .int), (kC_partNodes, .int), (kC_weights, .int), (kC_weightSums, .int), (kW, .int)] t) (va_A [(oc4 oL rL_values rL_supposed), (arI rL_values kL_values 18 fL_values), (oc1 oC iC_nodes iC_words iC_chances iC_unsures iC_slips iC_throneNode iC_saidWorth iC_unit rC_kind rC_parts rC_partNodes rC_weights rC_weightSums rC_toldWorths rC_steps rC_below rC_above rC_unsureWords rC_unsureWorths), (arI rC_kind kC_kind 18 fC_kind), (arI rC_parts kC_parts 18 fC_parts), (arI rC_partNodes kC_partNodes 72 fC_partNodes), (arI rC_weights kC_weights 72 fC_weights), (arI rC_weightSums kC_weightSums 18 fC_weightSums), (arI rW kW 18 fW)] sz)) 0 0 (va_A [(oc4 oL rL_values rL_supposed), (arI rL_values kL_values 18 fL_values), (oc1 oC iC_nodes iC_words iC_chances iC_unsures iC_slips iC_throneNode iC_saidWorth iC_unit rC_kind rC_parts rC_partNodes rC_weights rC_weightSums rC_toldWorths rC_steps rC_below rC_above rC_unsureWords rC_unsureWorths), (arI rC_kind kC_kind 18 fC_kind), (arI rC_parts kC_parts 18 fC_parts), (arI rC_partNodes kC_partNodes 72 fC_partNodes), (arI rC_weights kC_weights 72 fC_weights), (arI rC_weightSums kC_weightSums 18 fC_weightSums), (arI rW kW 18 fW)] sz) := by
  refine Met.ofW (cc := cX4_weighAll) (maxL := 4) (ret := (some .int)) pnX4 rfl ?_
  intro p e s m args below meth c s₁ B hml hv
  obtain ⟨rfl, hsz, hP, hK, hD0, hE⟩ := hv
  have hx := B.exec
  have hb := B.bytes
  have hr := B.returns
  have hts : ∀ w ∈ wG, w.before ([.ref oL, .ref oC, .ref rW] : List Value).toArray s = true := fun w h => atoms_spec (ws := Cond.code yX4_weighAll cX4_weighAll 4 (some .int) :: wG) B.pre w (List.mem_cons_of_mem _ h)
  have hown : s.vm.findClass RX4 = some m.cls := own_of B.named rfl
  have hlocks := B.notSynchronized
  subst hsz
  have hD := hD0.self (sz := s.heap.size)
  generalize hAe : va_A [(oc4 oL rL_values rL_supposed), (arI rL_values kL_values 18 fL_values), (oc1 oC iC_nodes iC_words iC_chances iC_unsures iC_slips iC_throneNode iC_saidWorth iC_unit rC_kind rC_parts rC_partNodes rC_weights rC_weightSums rC_toldWorths rC_steps rC_below rC_above rC_unsureWords rC_unsureWorths), (arI rC_kind kC_kind 18 fC_kind), (arI rC_parts kC_parts 18 fC_parts), (arI rC_partNodes kC_partNodes 72 fC_partNodes), (arI rC_weights kC_weights 72 fC_weights), (arI rC_weightSums kC_weightSums 18 fC_weightSums), (arI rW kW 18 fW)] s.heap.size = A at hD hE ⊢
  have hA : ∀ q : Nat, s.heap.size ≤ q → A q := fun q h => by rw [← hAe]; exact Or.inr h
  have hS : va_S A s.heap s.heap [] := va_S.rf
  have hl := lv_entry ([.ref oL, .ref oC, .ref rW]) (n := 4) (Nat.le_of_ble_eq_true rfl)
  rw [lg_entry_eq]
  generalize (lg_sl ([.ref oL, .ref oC, .ref rW]) ++ List.replicate (4 - (lg_sl ([.ref oL, .ref oC, .ref rW])).length) Slot.unset).toArray = ls at hl ⊢
  have hl : lv_has ls 4 [(0, .ref oL), (1, .ref oC), (2, .ref rW)] := hl
  have hG := PX4_weighAll_eq fL_values iC_nodes iC_throneNode iC_unit fC_kind fC_parts fC_partNodes fC_weights fC_weightSums fW
  refine lv_iconst (v := 0) hx hb dX4_weighAll_0 (by decide) ?_
  refine lv_istore_n (lv' := [(3, .int 0), (0, .ref oL), (1, .ref oC), (2, .ref rW)]) hx hb dX4_weighAll_1 rfl hl (by decide) rfl (fun ls hl => ?_)
  have hl := lv_sub hl (l' := [(3, .int 0), (0, .ref oL), (1, .ref oC), (2, .ref rW)]) [0, 1, 2, 3] rfl
  have key_n_857 : ∀ (n_857 : Nat) (z_855 : Int32) (f_856 : Nat → Int32) (H : Heap) (locs : List Loc) (ls : Array Slot), (0 ≤ z_855.toInt ∧ z_855.toInt ≤ 2147483647) → (2147483647 - z_855.toInt).toNat < n_857 → (PX4_weighAll fL_values iC_nodes iC_throneNode iC_unit fC_kind fC_parts fC_partNodes fC_weights fC_weightSums fW = HX4_weighAll_0 iC_nodes iC_throneNode iC_unit fC_kind fC_parts fC_partNodes fC_weights fC_weightSums fW n_857 z_855 f_856) → va_P (dC, dI) vwCl [(oc4 oL rL_values rL_supposed), (arI rL_values kL_values 18 f_856), (oc1 oC iC_nodes iC_words iC_chances iC_unsures iC_slips iC_throneNode iC_saidWorth iC_unit rC_kind rC_parts rC_partNodes rC_weights rC_weightSums rC_toldWorths rC_steps rC_below rC_above rC_unsureWords rC_unsureWorths), (arI rC_kind kC_kind 18 fC_kind), (arI rC_parts kC_parts 18 fC_parts), (arI rC_partNodes kC_partNodes 72 fC_partNodes), (arI rC_weights kC_weights 72 fC_weights), (arI rC_weightSums kC_weightSums 18 fC_weightSums), (arI rW kW 18 fW)] H → va_D A [(oc4 oL rL_values rL_supposed), (arI rL_values kL_values 18 f_856), (oc1 oC iC_nodes iC_words iC_chances iC_unsures iC_slips iC_throneNode iC_saidWorth iC_unit rC_kind rC_parts rC_partNodes rC_weights rC_weightSums rC_toldWorths rC_steps rC_below rC_above rC_unsureWords rC_unsureWorths), (arI rC_kind kC_kind 18 fC_kind), (arI rC_parts kC_parts 18 fC_parts), (arI rC_partNodes kC_partNodes 72 fC_partNodes), (arI rC_weights kC_weights 72 fC_weights), (arI rC_weightSums kC_weightSums 18 fC_weightSums), (arI rW kW 18 fW)] → va_S A s.heap H locs → lv_has ls 4 [(3, .int z_855), (0, .ref oL), (1, .ref oC), (2, .ref rW)] → W p l e (headSpec (Cond.code yX4_weighAll cX4_weighAll 4 (some .int) :: wG) ({ frames := 2, cells := 0, slots := 0, locals := 48 })).room s m ([.ref oL, .ref oC, .ref rW] : List Value).toArray below meth c H locs 0 0 (MQ below (va_Qi (fun (r : Int32) (u : Nat) => (True ∧ True) ∧ r = Int32.ofNat u) (fun (u : Nat) (t : State) => ∃ (nfL_values : Nat → Int32), (PX4_weighAll fL_values iC_nodes iC_throneNode iC_unit fC_kind fC_parts fC_partNodes fC_weights fC_weightSums fW = (Int32.ofNat u, nfL_values)) ∧ Bw dC dI A [(oc4 oL rL_values rL_supposed), (arI rL_values kL_values 18 nfL_values), (oc1 oC iC_nodes iC_words iC_chances iC_unsures iC_slips iC_throneNode iC_saidWorth iC_unit rC_kind rC_parts rC_partNodes rC_weights rC_weightSums rC_toldWorths rC_steps rC_below rC_above rC_unsureWords rC_unsureWorths), (arI rC_kind kC_kind 18 fC_kind), (arI rC_parts kC_parts 18 fC_parts), (arI rC_partNodes kC_partNodes 72 fC_partNodes), (arI rC_weights kC_weights 72 fC_weights), (arI rC_weightSums kC_weightSums 18 fC_weightSums), (arI rW kW 18 fW)] [(kL_values, .int), (kC_kind, .int), (kC_parts, .int), (kC_partNodes, .int), (kC_weights, .int), (kC_weightSums, .int), (kW, .int)] t) A) ([.ref oL, .ref oC, .ref rW] : List Value).toArray s 0 0 A) (F0 m 2 ls []) := by
    intro n_857
    induction n_857 with
    | zero => intro z_855 f_856 H locs ls hi0_n_857 hm; exact absurd hm (Nat.not_lt_zero _)
    | succ n_857 ih_n_857 =>
      intro z_855 f_856 H locs ls hi0_n_857 hm_n_857 hG hP hD hS hl
      have hG := hG.trans (HX4_weighAll_0_eq _ _ _ _ _ _ _ _ _ _ _ _)
      have rg_z_855 := fb_rng z_855
      refine lv_iload_n hx hb dX4_weighAll_2 rfl (lv_at hl 0 rfl) ?_
      refine lv_aload_n hx hb dX4_weighAll_3 rfl (lv_at hl 2 rfl) ?_
      refine va_get (D := (dC, dI)) (ci := 1) (v := .int iC_nodes) (C := RX1) (T := TX1) (N := 19) hx hb hts inX1 hown hK hP 2 rfl rfl 0 (by decide) (hts _ wd_616) (fun _ h9 => h9) rfl dX4_weighAll_4 ?_
      have rg_iC_nodes := fb_rng iC_nodes
      refine lv_icmp_ge (tgt := 48) hx hb dX4_weighAll_7 (by decide) (fun c_858 => ?_) (fun c_858 => ?_)
      · skip
        have hG := hG.trans (if_pos c_858)
        have gc_858 := ti_le c_858 rfl rfl
        refine lv_aload_n hx hb dX4_weighAll_48 rfl (lv_at hl 1 rfl) ?_
        refine lv_aload_n hx hb dX4_weighAll_49 rfl (lv_at hl 2 rfl) ?_
        have hMs := ml_of hD [true, true, true, false, false, false, false, false, false] (wc := [(oc4 oL rL_values rL_supposed), (arI rL_values kL_values 18 f_856), (oc1 oC iC_nodes iC_words iC_chances iC_unsures iC_slips iC_throneNode iC_saidWorth iC_unit rC_kind rC_parts rC_partNodes rC_weights rC_weightSums rC_toldWorths rC_steps rC_below rC_above rC_unsureWords rC_unsureWorths)]) rfl
        have hFc := va_freeM hD hS hA _ hMs
        refine va_calli (va_runV (As := [.ref oC]) (rest := []) ⟨hx, hb, hml, hown, hts⟩ (tX4_throneValue l dC dI _ oL rL_values f_856 kL_values rL_supposed oC iC_nodes iC_words iC_chances iC_unsures iC_slips iC_throneNode iC_saidWorth iC_unit rC_kind rC_parts rC_partNodes rC_weights rC_weightSums rC_toldWorths rC_steps rC_below rC_above rC_unsureWords rC_unsureWorths b_iC_nodes b_iC_unsures b_iC_throneNode) (cwV 1 hts (wd_V wd_629 wd_630 wd_631 wd_37 (wd_c wd_632)) rfl rfl rfl dv_yX4_throneValue_1 ⟨Nat.le_of_ble_eq_true rfl, Nat.le_of_ble_eq_true rfl⟩) ⟨Pw.fb, recvX4 hK hP (q0 := 0) rfl, fun U hU hW => Pw.to (hP.ms _ hMs) (hD.ms _ hMs) (hK.ms [true, false, false, false, false, false, false] rfl) hE hS hFc hU hW⟩ rfl rfl hl.1 rfl (lv_room (Nat.le_of_ble_eq_true rfl)) dX4_weighAll_50 ⟨Nat.le_of_ble_eq_true rfl, Nat.le_of_ble_eq_true rfl⟩) hS (fun q _ h => hFc q h) hFc (fun r u t H locs ht hvm hw hB hz1 hk1 hS => ?_)
        have hru9 := hw.2
        have hw := hw.1
        obtain ⟨hP, hD⟩ := Bw.goN (ws' := [(oc4 oL rL_values rL_supposed), (arI rL_values kL_values 18 f_856), (oc1 oC iC_nodes iC_words iC_chances iC_unsures iC_slips iC_throneNode iC_saidWorth iC_unit rC_kind rC_parts rC_partNodes rC_weights rC_weightSums rC_toldWorths rC_steps rC_below rC_above rC_unsureWords rC_unsureWorths), (arI rC_kind kC_kind 18 fC_kind), (arI rC_parts kC_parts 18 fC_parts), (arI rC_partNodes kC_partNodes 72 fC_partNodes), (arI rC_weights kC_weights 72 fC_weights), (arI rC_weightSums kC_weightSums 18 fC_weightSums), (arI rW kW 18 fW)]) hB rfl ht hP hD _ hMs hk1 hFc rfl
        clear hz1 hk1 hvm ht hB hMs
        obtain ⟨x_859, rfl⟩ : ∃ z, z = r := ⟨_, rfl⟩
        have hG := hG.trans (lt_eq hru9.symm)
        have rg_x_859 := fb_rng x_859
        exact wq_i hx hb hr (cI x_859) ⟨⟨trivial, trivial⟩, (cI_of x_859)⟩ (fun t ht hW => ⟨f_856, (cI_tup hG), Bw.to hP hD hK ht hW⟩) hS dX4_weighAll_53 hlocks
      · skip
        have hG := hG.trans (if_neg c_858)
        have gc_858 := ti_nle c_858 rfl rfl
        refine lv_aload_n hx hb dX4_weighAll_10 rfl (lv_at hl 1 rfl) ?_
        refine va_get (D := (dC, dI)) (ci := 4) (v := .ref rL_values) (C := RX4) (T := TX4) (N := 2) hx hb hts inX4 hown hK hP 0 rfl rfl 0 (by decide) (hts _ wd_146) (fun _ h9 => h9) rfl dX4_weighAll_11 ?_
        refine lv_iload_n hx hb dX4_weighAll_14 rfl (lv_at hl 0 rfl) ?_
        refine lv_aload_n hx hb dX4_weighAll_15 rfl (lv_at hl 2 rfl) ?_
        refine va_get (D := (dC, dI)) (ci := 1) (v := .ref rC_kind) (C := RX1) (T := TX1) (N := 19) hx hb hts inX1 hown hK hP 2 rfl rfl 8 (by decide) (hts _ wd_617) (fun _ h9 => h9) rfl dX4_weighAll_16 ?_
        refine lv_iload_n hx hb dX4_weighAll_19 rfl (lv_at hl 0 rfl) ?_
        refine va_iald hx hb hK hP 3 1 rfl rfl (ti_in rfl hi0_n_857.1 (om_97cd4a7c b_iC_nodes.2 gc_858)) dX4_weighAll_20 ?_
        refine lv_topi (fun x_860 ex_860 => ?_)
        have hG := hG.trans (lt_eq ex_860)
        have rg_x_860 := fb_rng x_860
        have kx_860 : (fC_kind z_855.toNatClampNeg).toInt = x_860.toInt := by rw [ex_860]
        refine lv_if_ne (tgt := 35) hx hb dX4_weighAll_21 (by decide) (fun c_861 => ?_) (fun c_861 => ?_)
        · skip
          have hG := hG.trans (if_neg c_861)
          have gc_861 := ti_ne c_861 rfl kc_0
          refine lv_aload_n hx hb dX4_weighAll_35 rfl (lv_at hl 1 rfl) ?_
          refine lv_aload_n hx hb dX4_weighAll_36 rfl (lv_at hl 2 rfl) ?_
          refine lv_iload_n hx hb dX4_weighAll_37 rfl (lv_at hl 0 rfl) ?_
          have hMs := ml_of hD [true, true, true, true, true, true, true, true, false] (wc := [(oc4 oL rL_values rL_supposed), (arI rL_values kL_values 18 f_856), (oc1 oC iC_nodes iC_words iC_chances iC_unsures iC_slips iC_throneNode iC_saidWorth iC_unit rC_kind rC_parts rC_partNodes rC_weights rC_weightSums rC_toldWorths rC_steps rC_below rC_above rC_unsureWords rC_unsureWorths), (arI rC_kind kC_kind 18 fC_kind), (arI rC_parts kC_parts 18 fC_parts), (arI rC_partNodes kC_partNodes 72 fC_partNodes), (arI rC_weights kC_weights 72 fC_weights), (arI rC_weightSums kC_weightSums 18 fC_weightSums)]) rfl
          have hFc := va_freeM hD hS hA _ hMs
          refine va_calli (va_runV (As := [.ref oC, .int z_855]) (rest := [.int z_855, .ref rL_values]) ⟨hx, hb, hml, hown, hts⟩ (tX4_joined l dC dI _ oL rL_values f_856 kL_values rL_supposed oC iC_nodes iC_words iC_chances iC_unsures iC_slips iC_throneNode iC_saidWorth iC_unit rC_kind fC_kind kC_kind rC_parts fC_parts kC_parts rC_partNodes fC_partNodes kC_partNodes rC_weights fC_weights kC_weights rC_weightSums fC_weightSums kC_weightSums rC_toldWorths rC_steps rC_below rC_above rC_unsureWords rC_unsureWorths z_855 b_iC_nodes b_iC_unsures b_iC_throneNode a_fC_parts a_fC_partNodes ⟨hi0_n_857.1, (om_525c5d3e b_iC_nodes.2 gc_858)⟩) (cwV 2 hts (wd_V wd_619 wd_620 wd_621 wd_37 (wd_c wd_622)) rfl rfl rfl dv_yX4_joined_2 ⟨Nat.le_of_ble_eq_true rfl, Nat.le_of_ble_eq_true rfl⟩) ⟨Pw.fb, recvX4 hK hP (q0 := 0) rfl, fun U hU hW => Pw.to (hP.ms _ hMs) (hD.ms _ hMs) (hK.ms [true, true, true, true, true, true, false] rfl) hE hS hFc hU hW⟩ rfl rfl hl.1 rfl (lv_room (Nat.le_of_ble_eq_true rfl)) dX4_weighAll_38 ⟨Nat.le_of_ble_eq_true rfl, Nat.le_of_ble_eq_true rfl⟩) hS (fun q _ h => hFc q h) hFc (fun r u t H locs ht hvm hw hB hz1 hk1 hS => ?_)
          have hru9 := hw.2
          have hw := hw.1
          obtain ⟨hP, hD⟩ := Bw.goN (ws' := [(oc4 oL rL_values rL_supposed), (arI rL_values kL_values 18 f_856), (oc1 oC iC_nodes iC_words iC_chances iC_unsures iC_slips iC_throneNode iC_saidWorth iC_unit rC_kind rC_parts rC_partNodes rC_weights rC_weightSums rC_toldWorths rC_steps rC_below rC_above rC_unsureWords rC_unsureWorths), (arI rC_kind kC_kind 18 fC_kind), (arI rC_parts kC_parts 18 fC_parts), (arI rC_partNodes kC_partNodes 72 fC_partNodes), (arI rC_weights kC_weights 72 fC_weights), (arI rC_weightSums kC_weightSums 18 fC_weightSums), (arI rW kW 18 fW)]) hB rfl ht hP hD _ hMs hk1 hFc rfl
          clear hz1 hk1 hvm ht hB hMs
          obtain ⟨x_862, rfl⟩ : ∃ z, z = r := ⟨_, rfl⟩
          have hG := hG.trans (lt_eq hru9.symm)
          have rg_x_862 := fb_rng x_862
          refine va_iast hx hb hK hP hD hS 1 0 rfl rfl (ti_in rfl hi0_n_857.1 (om_97cd4a7c b_iC_nodes.2 gc_858)) dX4_weighAll_41 (fun H locs hP hD hS => ?_)
          obtain ⟨f_864, ef_864⟩ : ∃ g : Nat → Int32, g = upd f_856 z_855.toNatClampNeg x_862 := ⟨_, rfl⟩
          rw [← ef_864] at hP hD
          have hG := hG.trans (lt_eq ef_864)
          obtain ⟨hP, hD⟩ := wl2 (ws' := [(oc4 oL rL_values rL_supposed), (arI rL_values kL_values 18 f_864), (oc1 oC iC_nodes iC_words iC_chances iC_unsures iC_slips iC_throneNode iC_saidWorth iC_unit rC_kind rC_parts rC_partNodes rC_weights rC_weightSums rC_toldWorths rC_steps rC_below rC_above rC_unsureWords rC_unsureWorths), (arI rC_kind kC_kind 18 fC_kind), (arI rC_parts kC_parts 18 fC_parts), (arI rC_partNodes kC_partNodes 72 fC_partNodes), (arI rC_weights kC_weights 72 fC_weights), (arI rC_weightSums kC_weightSums 18 fC_weightSums), (arI rW kW 18 fW)]) hP hD rfl
          obtain ⟨x_865, ex_865⟩ : ∃ z : Int32, z = z_855 + Int32.ofInt 1 := ⟨_, rfl⟩
          have hG := hG.trans (lt_eq ex_865)
          have vx_865 : x_865.toInt = z_855.toInt + 1 := ti_add (y := 1) ex_865 rfl kc_1 (om_4e4fce7e hi0_n_857.1) (om_a32d6481 b_iC_nodes.2 gc_858)
          refine lv_iinc (v := x_865) (lv' := [(3, .int x_865), (0, .ref oL), (1, .ref oC), (2, .ref rW)]) hx hb dX4_weighAll_42 hl (k := 0) rfl ex_865.symm (by decide) rfl (fun ls hl => ?_)
          refine lv_goto (tgt := 2) hx hb dX4_weighAll_45 (by decide) ?_
          exact ih_n_857 x_865 f_864 _ _ _  ⟨(om_83b90de5 hi0_n_857.1 vx_865), (om_ed8867da b_iC_nodes.2 gc_858 vx_865)⟩ (ms_lt hm_n_857 (om_b9393183 vx_865) (om_1d9fa7fb b_iC_nodes.2 gc_858)) hG hP hD hS (lv_sub hl [0, 1, 2, 3] rfl)
        · skip
          have hG := hG.trans (if_pos c_861)
          have gc_861 := ti_eq c_861 rfl kc_0
          refine lv_aload_n hx hb dX4_weighAll_24 rfl (lv_at hl 3 rfl) ?_
          refine lv_iload_n hx hb dX4_weighAll_25 rfl (lv_at hl 0 rfl) ?_
          refine va_iald hx hb hK hP 8 6 rfl rfl (ti_in rfl hi0_n_857.1 (om_97cd4a7c b_iC_nodes.2 gc_858)) dX4_weighAll_26 ?_
          refine lv_topi (fun x_866 ex_866 => ?_)
          have hG := hG.trans (lt_eq ex_866)
          have rg_x_866 := fb_rng x_866
          have kx_866 : (fW z_855.toNatClampNeg).toInt = x_866.toInt := by rw [ex_866]
          refine lv_aload_n hx hb dX4_weighAll_27 rfl (lv_at hl 2 rfl) ?_
          refine va_get (D := (dC, dI)) (ci := 1) (v := .int iC_unit) (C := RX1) (T := TX1) (N := 19) hx hb hts inX1 hown hK hP 2 rfl rfl 7 (by decide) (hts _ wd_618) (fun _ h9 => h9) rfl dX4_weighAll_28 ?_
          have rg_iC_unit := fb_rng iC_unit
          refine lv_imul hx hb dX4_weighAll_31 ?_
          refine lv_topi (fun x_867 ex_867 => ?_)
          have hG := hG.trans (lt_eq ex_867)
          have rg_x_867 := fb_rng x_867
          refine lv_goto (tgt := 41) hx hb dX4_weighAll_32 (by decide) ?_
          refine va_iast hx hb hK hP hD hS 1 0 rfl rfl (ti_in rfl hi0_n_857.1 (om_97cd4a7c b_iC_nodes.2 gc_858)) dX4_weighAll_41 (fun H locs hP hD hS => ?_)
          obtain ⟨f_869, ef_869⟩ : ∃ g : Nat → Int32, g = upd f_856 z_855.toNatClampNeg x_867 := ⟨_, rfl⟩
          rw [← ef_869] at hP hD
          have hG := hG.trans (lt_eq ef_869)
          obtain ⟨hP, hD⟩ := wl2 (ws' := [(oc4 oL rL_values rL_supposed), (arI rL_values kL_values 18 f_869), (oc1 oC iC_nodes iC_words iC_chances iC_unsures iC_slips iC_throneNode iC_saidWorth iC_unit rC_kind rC_parts rC_partNodes rC_weights rC_weightSums rC_toldWorths rC_steps rC_below rC_above rC_unsureWords rC_unsureWorths), (arI rC_kind kC_kind 18 fC_kind), (arI rC_parts kC_parts 18 fC_parts), (arI rC_partNodes kC_partNodes 72 fC_partNodes), (arI rC_weights kC_weights 72 fC_weights), (arI rC_weightSums kC_weightSums 18 fC_weightSums), (arI rW kW 18 fW)]) hP hD rfl
          obtain ⟨x_870, ex_870⟩ : ∃ z : Int32, z = z_855 + Int32.ofInt 1 := ⟨_, rfl⟩
          have hG := hG.trans (lt_eq ex_870)
          have vx_870 : x_870.toInt = z_855.toInt + 1 := ti_add (y := 1) ex_870 rfl kc_1 (om_4e4fce7e hi0_n_857.1) (om_a32d6481 b_iC_nodes.2 gc_858)
          refine lv_iinc (v := x_870) (lv' := [(3, .int x_870), (0, .ref oL), (1, .ref oC), (2, .ref rW)]) hx hb dX4_weighAll_42 hl (k := 0) rfl ex_870.symm (by decide) rfl (fun ls hl => ?_)
          refine lv_goto (tgt := 2) hx hb dX4_weighAll_45 (by decide) ?_
          exact ih_n_857 x_870 f_869 _ _ _  ⟨(om_83b90de5 hi0_n_857.1 vx_870), (om_ed8867da b_iC_nodes.2 gc_858 vx_870)⟩ (ms_lt hm_n_857 (om_b9393183 vx_870) (om_1d9fa7fb b_iC_nodes.2 gc_858)) hG hP hD hS (lv_sub hl [0, 1, 2, 3] rfl)
  exact key_n_857 (((2147483647 - (0 : Int32).toInt).toNat) + 1) 0 fL_values _ _ _  ⟨(om_b1de7dbe kc_0), (om_daf17c64 kc_0)⟩ (Nat.lt_add_one _) hG hP hD hS hl
set_option maxHeartbeats 4000000 in
set_option maxRecDepth 100000 in
theorem tX4_throneByWord (l : Launch) (dC : Nat → ClassId) (dI : Nat → Nat → Nat) (sz : Nat) (oL : Nat) (rL_values : Nat) (fL_values : Nat → Int32) (kL_values : ClassId) (rL_supposed : Nat) (fL_supposed : Nat → Int32) (kL_supposed : ClassId) (oC : Nat) (iC_nodes : Int32) (iC_words : Int32) (iC_chances : Int32) (iC_unsures : Int32) (iC_slips : Int32) (iC_throneNode : Int32) (iC_saidWorth : Int32) (iC_unit : Int32) (rC_kind : Nat) (fC_kind : Nat → Int32) (kC_kind : ClassId) (rC_parts : Nat) (fC_parts : Nat → Int32) (kC_parts : ClassId) (rC_partNodes : Nat) (fC_partNodes : Nat → Int32) (kC_partNodes : ClassId) (rC_weights : Nat) (fC_weights : Nat → Int32) (kC_weights : ClassId) (rC_weightSums : Nat) (fC_weightSums : Nat → Int32) (kC_weightSums : ClassId) (rC_toldWorths : Nat) (rC_steps : Nat) (rC_below : Nat) (rC_above : Nat) (rC_unsureWords : Nat) (rC_unsureWorths : Nat) (oS : Nat) (rS_worths : Nat) (fS_worths : Nat → Int32) (kS_worths : ClassId) (rS_order : Nat) (rS_left : Nat) (p0 : Int32) (p1 : Int32) (b_iC_nodes : 0 ≤ iC_nodes.toInt ∧ iC_nodes.toInt ≤ 18) (b_iC_unsures : 0 ≤ iC_unsures.toInt ∧ iC_unsures.toInt ≤ 4) (b_iC_throneNode : (-1) ≤ iC_throneNode.toInt ∧ iC_throneNode.toInt ≤ 17) (a_fC_parts : ∀ j : Nat, j < 18 → 0 ≤ (fC_parts j).toInt ∧ (fC_parts j).toInt ≤ 4) (a_fC_partNodes : ∀ j : Nat, j < 72 → 0 ≤ (fC_partNodes j).toInt ∧ (fC_partNodes j).toInt ≤ 17)  : Met l yX4_throneByWord (Cond.code yX4_throneByWord cX4_throneByWord 5 (some .int) :: wG) ({ frames := 3, cells := 0, slots := 0, locals := 71 }) (va_Pc [.ref oL, .ref oC, .ref oS, .int p0, .int p1] (Pw dC dI sz [(oc4 oL rL_values rL_supposed), (arI rL_values kL_values 18 fL_values), (arI rL_supposed kL_supposed 18 fL_supposed), (oc1 oC iC_nodes iC_words iC_chances iC_unsures iC_slips iC_throneNode iC_saidWorth iC_unit rC_kind rC_parts rC_partNodes rC_weights rC_weightSums rC_toldWorths rC_steps rC_below rC_above rC_unsureWords rC_unsureWorths), (arI rC_kind kC_kind 18 fC_kind), (arI rC_parts kC_parts 18 fC_parts), (arI rC_partNodes kC_partNodes 72 fC_partNodes), (arI rC_weights kC_weights 72 fC_weights), (arI rC_weightSums kC_weightSums 18 fC_weightSums), (oc5 oS rS_worths rS_order rS_left), (arI rS_worths kS_worths 18 fS_worths)] [(kL_values, .int), (kL_supposed, .int), (kC_kind, .int), (kC_parts, .int), (kC_partNodes, .int), (kC_weights, .int), (kC_weightSums, .int), (kS_worths, .int)])) (va_Qi (fun (r : Int32) (u : Nat) => (True ∧ True) ∧ r = Int32.ofNat u) (fun (u : Nat) (t : State) => ∃ (nfL_values : Nat → Int32) (nfL_supposed : Nat → Int32), (PX4_throneByWord fL_values fL_supposed iC_nodes iC_throneNode iC_unit fC_kind fC_parts fC_partNodes fC_weights fC_weightSums fS_worths p0 p1 = (Int32.ofNat u, nfL_values, nfL_supposed)) ∧ Bw dC dI (va_A [(oc4 oL rL_values rL_supposed), (arI rL_values kL_values 18 fL_values), (arI rL_supposed kL_supposed 18 fL_supposed), (oc1 oC iC_nodes iC_words iC_chances iC_unsures iC_slips iC_throneNode iC_saidWorth iC_unit rC_kind rC_parts rC_partNodes rC_weights rC_weightSums rC_toldWorths rC_steps rC_below rC_above rC_unsureWords rC_unsureWorths), (arI rC_kind kC_kind 18 fC_kind), (arI rC_parts kC_parts 18 fC_parts), (arI rC_partNodes kC_partNodes 72 fC_partNodes), (arI rC_weights kC_weights 72 fC_weights), (arI rC_weightSums kC_weightSums 18 fC_weightSums), (oc5 oS rS_worths rS_order rS_left), (arI rS_worths kS_worths 18 fS_worths)] sz) [(oc4 oL rL_values rL_supposed), (arI rL_values kL_values 18 nfL_values), (arI rL_supposed kL_supposed 18 nfL_supposed), (oc1 oC iC_nodes iC_words iC_chances iC_unsures iC_slips iC_throneNode iC_saidWorth iC_unit rC_kind rC_parts rC_partNodes rC_weights rC_weightSums rC_toldWorths rC_steps rC_below rC_above rC_unsureWords rC_unsureWorths), (arI rC_kind kC_kind 18 fC_kind), (arI rC_parts kC_parts 18 fC_parts), (arI rC_partNodes kC_partNodes 72 fC_partNodes), (arI rC_weights kC_weights 72 fC_weights), (arI rC_weightSums kC_weightSums 18 fC_weightSums), (oc5 oS rS_worths rS_order rS_left), (arI rS_worths kS_worths 18 fS_worths)] [(kL_values, .int), (kL_supposed, .int), (kC_kind, .int), (kC_parts, .int), (kC_partNodes, .int), (kC_weights, .int), (kC_weightSums, .int), (kS_worths, .int)] t) (va_A [(oc4 oL rL_values rL_supposed), (arI rL_values kL_values 18 fL_values), (arI rL_supposed kL_supposed 18 fL_supposed), (oc1 oC iC_nodes iC_words iC_chances iC_unsures iC_slips iC_throneNode iC_saidWorth iC_unit rC_kind rC_parts rC_partNodes rC_weights rC_weightSums rC_toldWorths rC_steps rC_below rC_above rC_unsureWords rC_unsureWorths), (arI rC_kind kC_kind 18 fC_kind), (arI rC_parts kC_parts 18 fC_parts), (arI rC_partNodes kC_partNodes 72 fC_partNodes), (arI rC_weights kC_weights 72 fC_weights), (arI rC_weightSums kC_weightSums 18 fC_weightSums), (oc5 oS rS_worths rS_order rS_left), (arI rS_worths kS_worths 18 fS_worths)] sz)) 0 0 (va_A [(oc4 oL rL_values rL_supposed), (arI rL_values kL_values 18 fL_values), (arI rL_supposed kL_supposed 18 fL_supposed), (oc1 oC iC_nodes iC_words iC_chances iC_unsures iC_slips iC_throneNode iC_saidWorth iC_unit rC_kind rC_parts rC_partNodes rC_weights rC_weightSums rC_toldWorths rC_steps rC_below rC_above rC_unsureWords rC_unsureWorths), (arI rC_kind kC_kind 18 fC_kind), (arI rC_parts kC_parts 18 fC_parts), (arI rC_partNodes kC_partNodes 72 fC_partNodes), (arI rC_weights kC_weights 72 fC_weights), (arI rC_weightSums kC_weightSums 18 fC_weightSums), (oc5 oS rS_worths rS_order rS_left), (arI rS_worths kS_worths 18 fS_worths)] sz) := by
  refine Met.ofW (cc := cX4_throneByWord) (maxL := 5) (ret := (some .int)) pnX4 rfl ?_
  intro p e s m args below meth c s₁ B hml hv
  obtain ⟨rfl, hsz, hP, hK, hD0, hE⟩ := hv
  have hx := B.exec
  have hb := B.bytes
  have hr := B.returns
  have hts : ∀ w ∈ wG, w.before ([.ref oL, .ref oC, .ref oS, .int p0, .int p1] : List Value).toArray s = true := fun w h => atoms_spec (ws := Cond.code yX4_throneByWord cX4_throneByWord 5 (some .int) :: wG) B.pre w (List.mem_cons_of_mem _ h)
  have hown : s.vm.findClass RX4 = some m.cls := own_of B.named rfl
  have hlocks := B.notSynchronized
  subst hsz
  have hD := hD0.self (sz := s.heap.size)
  generalize hAe : va_A [(oc4 oL rL_values rL_supposed), (arI rL_values kL_values 18 fL_values), (arI rL_supposed kL_supposed 18 fL_supposed), (oc1 oC iC_nodes iC_words iC_chances iC_unsures iC_slips iC_throneNode iC_saidWorth iC_unit rC_kind rC_parts rC_partNodes rC_weights rC_weightSums rC_toldWorths rC_steps rC_below rC_above rC_unsureWords rC_unsureWorths), (arI rC_kind kC_kind 18 fC_kind), (arI rC_parts kC_parts 18 fC_parts), (arI rC_partNodes kC_partNodes 72 fC_partNodes), (arI rC_weights kC_weights 72 fC_weights), (arI rC_weightSums kC_weightSums 18 fC_weightSums), (oc5 oS rS_worths rS_order rS_left), (arI rS_worths kS_worths 18 fS_worths)] s.heap.size = A at hD hE ⊢
  have hA : ∀ q : Nat, s.heap.size ≤ q → A q := fun q h => by rw [← hAe]; exact Or.inr h
  have hS : va_S A s.heap s.heap [] := va_S.rf
  have hl := lv_entry ([.ref oL, .ref oC, .ref oS, .int p0, .int p1]) (n := 5) (Nat.le_of_ble_eq_true rfl)
  rw [lg_entry_eq]
  generalize (lg_sl ([.ref oL, .ref oC, .ref oS, .int p0, .int p1]) ++ List.replicate (5 - (lg_sl ([.ref oL, .ref oC, .ref oS, .int p0, .int p1])).length) Slot.unset).toArray = ls at hl ⊢
  have hl : lv_has ls 5 [(0, .ref oL), (1, .ref oC), (2, .ref oS), (3, .int p0), (4, .int p1)] := hl
  have hG := PX4_throneByWord_eq fL_values fL_supposed iC_nodes iC_throneNode iC_unit fC_kind fC_parts fC_partNodes fC_weights fC_weightSums fS_worths p0 p1
  refine lv_aload_n hx hb dX4_throneByWord_0 rfl (lv_at hl 2 rfl) ?_
  refine va_get (D := (dC, dI)) (ci := 5) (v := .ref rS_worths) (C := RX5) (T := TX5) (N := 3) hx hb hts inX5 hown hK hP 9 rfl rfl 0 (by decide) (hts _ wd_948) (fun _ h9 => h9) rfl dX4_throneByWord_1 ?_
  refine lv_iconst (v := 0) hx hb dX4_throneByWord_4 (by decide) ?_
  refine lv_aload_n hx hb dX4_throneByWord_5 rfl (lv_at hl 0 rfl) ?_
  refine va_get (D := (dC, dI)) (ci := 4) (v := .ref rL_supposed) (C := RX4) (T := TX4) (N := 2) hx hb hts inX4 hown hK hP 0 rfl rfl 1 (by decide) (hts _ wd_147) (fun _ h9 => h9) rfl dX4_throneByWord_6 ?_
  refine lv_iconst (v := 0) hx hb dX4_throneByWord_9 (by decide) ?_
  refine lv_bipush (v := 18) hx hb dX4_throneByWord_10 (by decide) ?_
  refine vz_copyE hx hb (hml.trans hl.1.symm) hown (hts _ wd_1134) (hts _ wd_1016) (hts _ wd_1017) (hts _ wd_1018) hK hP hD hS 10 2 7 1 rfl rfl rfl rfl (k := 18) (by decide) (by decide) (Nat.le_of_ble_eq_true rfl) (Nat.le_of_ble_eq_true (by decide +kernel)) dX4_throneByWord_12 (fun H locs f_880 ef_880 c_f_880 hP hD hS => ?_)
  have hG := hG.trans (lt_eq ef_880)
  obtain ⟨hP, hD⟩ := wl2 (ws' := [(oc4 oL rL_values rL_supposed), (arI rL_values kL_values 18 fL_values), (arI rL_supposed kL_supposed 18 f_880), (oc1 oC iC_nodes iC_words iC_chances iC_unsures iC_slips iC_throneNode iC_saidWorth iC_unit rC_kind rC_parts rC_partNodes rC_weights rC_weightSums rC_toldWorths rC_steps rC_below rC_above rC_unsureWords rC_unsureWorths), (arI rC_kind kC_kind 18 fC_kind), (arI rC_parts kC_parts 18 fC_parts), (arI rC_partNodes kC_partNodes 72 fC_partNodes), (arI rC_weights kC_weights 72 fC_weights), (arI rC_weightSums kC_weightSums 18 fC_weightSums), (oc5 oS rS_worths rS_order rS_left), (arI rS_worths kS_worths 18 fS_worths)]) hP hD rfl
  refine lv_aload_n hx hb dX4_throneByWord_15 rfl (lv_at hl 1 rfl) ?_
  refine lv_iload_n hx hb dX4_throneByWord_16 rfl (lv_at hl 3 rfl) ?_
  have hMs := ml_of hD [false, false, false, true, false, false, false, false, false, false, false] (wc := [(oc1 oC iC_nodes iC_words iC_chances iC_unsures iC_slips iC_throneNode iC_saidWorth iC_unit rC_kind rC_parts rC_partNodes rC_weights rC_weightSums rC_toldWorths rC_steps rC_below rC_above rC_unsureWords rC_unsureWorths)]) rfl
  have hFc := va_freeM hD hS hA _ hMs
  refine va_calli (va_runV (As := [.int p0]) (rest := []) ⟨hx, hb, hml, hown, hts⟩ (tX1_hasNode l dC dI _ oC iC_nodes iC_words iC_chances iC_unsures iC_slips iC_throneNode iC_saidWorth iC_unit rC_kind rC_parts rC_partNodes rC_weights rC_weightSums rC_toldWorths rC_steps rC_below rC_above rC_unsureWords rC_unsureWorths p0 b_iC_nodes b_iC_unsures b_iC_throneNode) (cwV 1 hts (wd_V wd_634 wd_326 wd_327 wd_19 (wd_c wd_328)) rfl rfl rfl dv_yX1_hasNode_1 ⟨Nat.le_of_ble_eq_true rfl, Nat.le_of_ble_eq_true rfl⟩) ⟨Pw.fb, recvX1 hK hP (q0 := 3) rfl, fun U hU hW => Pw.to (hP.ms _ hMs) (hD.ms _ hMs) (hK.ms [false, false, false, false, false, false, false, false] rfl) hE hS hFc hU hW⟩ rfl rfl hl.1 rfl (lv_room (Nat.le_of_ble_eq_true rfl)) dX4_throneByWord_17 ⟨Nat.le_of_ble_eq_true rfl, Nat.le_of_ble_eq_true rfl⟩) hS (fun q _ h => hFc q h) hFc (fun r u t H locs ht hvm hw hB hz1 hk1 hS => ?_)
  have hru9 := hw.2
  have hw := hw.1
  obtain ⟨hP, hD⟩ := Bw.goN (ws' := [(oc4 oL rL_values rL_supposed), (arI rL_values kL_values 18 fL_values), (arI rL_supposed kL_supposed 18 f_880), (oc1 oC iC_nodes iC_words iC_chances iC_unsures iC_slips iC_throneNode iC_saidWorth iC_unit rC_kind rC_parts rC_partNodes rC_weights rC_weightSums rC_toldWorths rC_steps rC_below rC_above rC_unsureWords rC_unsureWorths), (arI rC_kind kC_kind 18 fC_kind), (arI rC_parts kC_parts 18 fC_parts), (arI rC_partNodes kC_partNodes 72 fC_partNodes), (arI rC_weights kC_weights 72 fC_weights), (arI rC_weightSums kC_weightSums 18 fC_weightSums), (oc5 oS rS_worths rS_order rS_left), (arI rS_worths kS_worths 18 fS_worths)]) hB rfl ht hP hD _ hMs hk1 hFc rfl
  clear hz1 hk1 hvm ht hB hMs
  rcases hw.2 with ⟨rfl, hc_881⟩ | ⟨rfl, hc_881⟩
  · skip
    have hG := hG.trans (lt_eq hru9.symm)
    have hG := hG.trans (if_pos rfl)
    refine lv_if_eq (tgt := 31) hx hb dX4_throneByWord_20 (by decide) (fun c => absurd c (by decide)) (fun _ => ?_)
    refine lv_aload_n hx hb dX4_throneByWord_23 rfl (lv_at hl 0 rfl) ?_
    refine va_get (D := (dC, dI)) (ci := 4) (v := .ref rL_supposed) (C := RX4) (T := TX4) (N := 2) hx hb hts inX4 hown hK hP 0 rfl rfl 1 (by decide) (hts _ wd_147) (fun _ h9 => h9) rfl dX4_throneByWord_24 ?_
    refine lv_iload_n hx hb dX4_throneByWord_27 rfl (lv_at hl 3 rfl) ?_
    refine lv_iload hx hb dX4_throneByWord_28 (lv_at hl 4 rfl) ?_
    refine va_iast hx hb hK hP hD hS 2 1 rfl rfl (ti_in rfl hc_881.1 (om_97cd4a7c b_iC_nodes.2 hc_881.2)) dX4_throneByWord_30 (fun H locs hP hD hS => ?_)
    obtain ⟨f_885, ef_885⟩ : ∃ g : Nat → Int32, g = upd f_880 p0.toNatClampNeg p1 := ⟨_, rfl⟩
    rw [← ef_885] at hP hD
    have hG := hG.trans (lt_eq ef_885)
    obtain ⟨hP, hD⟩ := wl2 (ws' := [(oc4 oL rL_values rL_supposed), (arI rL_values kL_values 18 fL_values), (arI rL_supposed kL_supposed 18 f_885), (oc1 oC iC_nodes iC_words iC_chances iC_unsures iC_slips iC_throneNode iC_saidWorth iC_unit rC_kind rC_parts rC_partNodes rC_weights rC_weightSums rC_toldWorths rC_steps rC_below rC_above rC_unsureWords rC_unsureWorths), (arI rC_kind kC_kind 18 fC_kind), (arI rC_parts kC_parts 18 fC_parts), (arI rC_partNodes kC_partNodes 72 fC_partNodes), (arI rC_weights kC_weights 72 fC_weights), (arI rC_weightSums kC_weightSums 18 fC_weightSums), (oc5 oS rS_worths rS_order rS_left), (arI rS_worths kS_worths 18 fS_worths)]) hP hD rfl
    refine lv_aload_n hx hb dX4_throneByWord_31 rfl (lv_at hl 0 rfl) ?_
    refine lv_aload_n hx hb dX4_throneByWord_32 rfl (lv_at hl 1 rfl) ?_
    refine lv_aload_n hx hb dX4_throneByWord_33 rfl (lv_at hl 0 rfl) ?_
    refine va_get (D := (dC, dI)) (ci := 4) (v := .ref rL_supposed) (C := RX4) (T := TX4) (N := 2) hx hb hts inX4 hown hK hP 0 rfl rfl 1 (by decide) (hts _ wd_147) (fun _ h9 => h9) rfl dX4_throneByWord_34 ?_
    have hFc := va_free (wc := [(oc4 oL rL_values rL_supposed), (arI rL_values kL_values 18 fL_values), (oc1 oC iC_nodes iC_words iC_chances iC_unsures iC_slips iC_throneNode iC_saidWorth iC_unit rC_kind rC_parts rC_partNodes rC_weights rC_weightSums rC_toldWorths rC_steps rC_below rC_above rC_unsureWords rC_unsureWorths), (arI rC_kind kC_kind 18 fC_kind), (arI rC_parts kC_parts 18 fC_parts), (arI rC_partNodes kC_partNodes 72 fC_partNodes), (arI rC_weights kC_weights 72 fC_weights), (arI rC_weightSums kC_weightSums 18 fC_weightSums), (arI rL_supposed kL_supposed 18 f_885)]) hD hS hA [0, 1, 3, 4, 5, 6, 7, 8, 2] rfl
    refine va_calli (va_runV (As := [.ref oC, .ref rL_supposed]) (rest := []) ⟨hx, hb, hml, hown, hts⟩ (tX4_weighAll l dC dI _ oL rL_values fL_values kL_values rL_supposed oC iC_nodes iC_words iC_chances iC_unsures iC_slips iC_throneNode iC_saidWorth iC_unit rC_kind fC_kind kC_kind rC_parts fC_parts kC_parts rC_partNodes fC_partNodes kC_partNodes rC_weights fC_weights kC_weights rC_weightSums fC_weightSums kC_weightSums rC_toldWorths rC_steps rC_below rC_above rC_unsureWords rC_unsureWorths rL_supposed f_885 kL_supposed b_iC_nodes b_iC_unsures b_iC_throneNode a_fC_parts a_fC_partNodes) (cwV 2 hts (wd_V wd_949 wd_613 wd_614 wd_37 (wd_c wd_615)) rfl rfl rfl dv_yX4_weighAll_2 ⟨Nat.le_of_ble_eq_true rfl, Nat.le_of_ble_eq_true rfl⟩) ⟨Pw.fb, recvX4 hK hP (q0 := 0) rfl, fun U hU hW => Pw.to (hP.sub [0, 1, 3, 4, 5, 6, 7, 8, 2] rfl) (hD.sub [0, 1, 3, 4, 5, 6, 7, 8, 2] (by decide) rfl) (hK.sub [0, 2, 3, 4, 5, 6, 1] rfl) hE hS hFc hU hW⟩ rfl rfl hl.1 rfl (lv_room (Nat.le_of_ble_eq_true rfl)) dX4_throneByWord_37 ⟨Nat.le_of_ble_eq_true rfl, Nat.le_of_ble_eq_true rfl⟩) hS (fun q _ h => hFc q h) hFc (fun r u t H locs ht hvm hw hB hz1 hk1 hS => ?_)
    have hru9 := hw.2
    have hw := hw.1
    refine ex_1_1 hB (fun f_886 e_f_886_0 hB => ?_)
    obtain ⟨hP, hD, hK⟩ := Bw.go (ws' := [(oc5 oS rS_worths rS_order rS_left), (arI rS_worths kS_worths 18 fS_worths), (oc4 oL rL_values rL_supposed), (arI rL_values kL_values 18 f_886), (oc1 oC iC_nodes iC_words iC_chances iC_unsures iC_slips iC_throneNode iC_saidWorth iC_unit rC_kind rC_parts rC_partNodes rC_weights rC_weightSums rC_toldWorths rC_steps rC_below rC_above rC_unsureWords rC_unsureWorths), (arI rC_kind kC_kind 18 fC_kind), (arI rC_parts kC_parts 18 fC_parts), (arI rC_partNodes kC_partNodes 72 fC_partNodes), (arI rC_weights kC_weights 72 fC_weights), (arI rC_weightSums kC_weightSums 18 fC_weightSums), (arI rL_supposed kL_supposed 18 f_885)]) (tys' := [(kS_worths, .int), (kL_values, .int), (kC_kind, .int), (kC_parts, .int), (kC_partNodes, .int), (kC_weights, .int), (kC_weightSums, .int), (kL_supposed, .int)]) hB rfl ht hvm hP hD hK [0, 1, 3, 4, 5, 6, 7, 8, 2] [9, 10] rfl (by decide) (by decide) [7] hk1 hFc rfl rfl rfl
    clear hz1 hk1 hvm ht hB
    rw [← hru9] at e_f_886_0
    obtain ⟨x_887, rfl⟩ : ∃ z, z = r := ⟨_, rfl⟩
    have hG := hG.trans (un2_eq e_f_886_0)
    exact wq_i hx hb hr (cI x_887) ⟨⟨trivial, trivial⟩, (cI_of x_887)⟩ (fun t ht hW => ⟨f_886, f_885, (cI_tup hG), Bw.to (hP.sub [2, 3, 10, 4, 5, 6, 7, 8, 9, 0, 1] rfl) (hD.sub [2, 3, 10, 4, 5, 6, 7, 8, 9, 0, 1] (by decide) rfl) (hK.sub [1, 7, 2, 3, 4, 5, 6, 0] rfl) ht hW⟩) hS dX4_throneByWord_40 hlocks
  · skip
    have hG := hG.trans (lt_eq hru9.symm)
    have hG := hG.trans (if_neg (by decide))
    refine lv_if_eq (tgt := 31) hx hb dX4_throneByWord_20 (by decide) (fun _ => ?_) (fun c => absurd c (by decide))
    refine lv_aload_n hx hb dX4_throneByWord_31 rfl (lv_at hl 0 rfl) ?_
    refine lv_aload_n hx hb dX4_throneByWord_32 rfl (lv_at hl 1 rfl) ?_
    refine lv_aload_n hx hb dX4_throneByWord_33 rfl (lv_at hl 0 rfl) ?_
    refine va_get (D := (dC, dI)) (ci := 4) (v := .ref rL_supposed) (C := RX4) (T := TX4) (N := 2) hx hb hts inX4 hown hK hP 0 rfl rfl 1 (by decide) (hts _ wd_147) (fun _ h9 => h9) rfl dX4_throneByWord_34 ?_
    have hFc := va_free (wc := [(oc4 oL rL_values rL_supposed), (arI rL_values kL_values 18 fL_values), (oc1 oC iC_nodes iC_words iC_chances iC_unsures iC_slips iC_throneNode iC_saidWorth iC_unit rC_kind rC_parts rC_partNodes rC_weights rC_weightSums rC_toldWorths rC_steps rC_below rC_above rC_unsureWords rC_unsureWorths), (arI rC_kind kC_kind 18 fC_kind), (arI rC_parts kC_parts 18 fC_parts), (arI rC_partNodes kC_partNodes 72 fC_partNodes), (arI rC_weights kC_weights 72 fC_weights), (arI rC_weightSums kC_weightSums 18 fC_weightSums), (arI rL_supposed kL_supposed 18 f_880)]) hD hS hA [0, 1, 3, 4, 5, 6, 7, 8, 2] rfl
    refine va_calli (va_runV (As := [.ref oC, .ref rL_supposed]) (rest := []) ⟨hx, hb, hml, hown, hts⟩ (tX4_weighAll l dC dI _ oL rL_values fL_values kL_values rL_supposed oC iC_nodes iC_words iC_chances iC_unsures iC_slips iC_throneNode iC_saidWorth iC_unit rC_kind fC_kind kC_kind rC_parts fC_parts kC_parts rC_partNodes fC_partNodes kC_partNodes rC_weights fC_weights kC_weights rC_weightSums fC_weightSums kC_weightSums rC_toldWorths rC_steps rC_below rC_above rC_unsureWords rC_unsureWorths rL_supposed f_880 kL_supposed b_iC_nodes b_iC_unsures b_iC_throneNode a_fC_parts a_fC_partNodes) (cwV 2 hts (wd_V wd_949 wd_613 wd_614 wd_37 (wd_c wd_615)) rfl rfl rfl dv_yX4_weighAll_2 ⟨Nat.le_of_ble_eq_true rfl, Nat.le_of_ble_eq_true rfl⟩) ⟨Pw.fb, recvX4 hK hP (q0 := 0) rfl, fun U hU hW => Pw.to (hP.sub [0, 1, 3, 4, 5, 6, 7, 8, 2] rfl) (hD.sub [0, 1, 3, 4, 5, 6, 7, 8, 2] (by decide) rfl) (hK.sub [0, 2, 3, 4, 5, 6, 1] rfl) hE hS hFc hU hW⟩ rfl rfl hl.1 rfl (lv_room (Nat.le_of_ble_eq_true rfl)) dX4_throneByWord_37 ⟨Nat.le_of_ble_eq_true rfl, Nat.le_of_ble_eq_true rfl⟩) hS (fun q _ h => hFc q h) hFc (fun r u t H locs ht hvm hw hB hz1 hk1 hS => ?_)
    have hru9 := hw.2
    have hw := hw.1
    refine ex_1_1 hB (fun f_889 e_f_889_0 hB => ?_)
    obtain ⟨hP, hD, hK⟩ := Bw.go (ws' := [(oc5 oS rS_worths rS_order rS_left), (arI rS_worths kS_worths 18 fS_worths), (oc4 oL rL_values rL_supposed), (arI rL_values kL_values 18 f_889), (oc1 oC iC_nodes iC_words iC_chances iC_unsures iC_slips iC_throneNode iC_saidWorth iC_unit rC_kind rC_parts rC_partNodes rC_weights rC_weightSums rC_toldWorths rC_steps rC_below rC_above rC_unsureWords rC_unsureWorths), (arI rC_kind kC_kind 18 fC_kind), (arI rC_parts kC_parts 18 fC_parts), (arI rC_partNodes kC_partNodes 72 fC_partNodes), (arI rC_weights kC_weights 72 fC_weights), (arI rC_weightSums kC_weightSums 18 fC_weightSums), (arI rL_supposed kL_supposed 18 f_880)]) (tys' := [(kS_worths, .int), (kL_values, .int), (kC_kind, .int), (kC_parts, .int), (kC_partNodes, .int), (kC_weights, .int), (kC_weightSums, .int), (kL_supposed, .int)]) hB rfl ht hvm hP hD hK [0, 1, 3, 4, 5, 6, 7, 8, 2] [9, 10] rfl (by decide) (by decide) [7] hk1 hFc rfl rfl rfl
    clear hz1 hk1 hvm ht hB
    rw [← hru9] at e_f_889_0
    obtain ⟨x_890, rfl⟩ : ∃ z, z = r := ⟨_, rfl⟩
    have hG := hG.trans (un2_eq e_f_889_0)
    exact wq_i hx hb hr (cI x_890) ⟨⟨trivial, trivial⟩, (cI_of x_890)⟩ (fun t ht hW => ⟨f_889, f_880, (cI_tup hG), Bw.to (hP.sub [2, 3, 10, 4, 5, 6, 7, 8, 9, 0, 1] rfl) (hD.sub [2, 3, 10, 4, 5, 6, 7, 8, 9, 0, 1] (by decide) rfl) (hK.sub [1, 7, 2, 3, 4, 5, 6, 0] rfl) ht hW⟩) hS dX4_throneByWord_40 hlocks
set_option maxHeartbeats 4000000 in
set_option maxRecDepth 100000 in
theorem tX4_throneBySet (l : Launch) (dC : Nat → ClassId) (dI : Nat → Nat → Nat) (sz : Nat) (oL : Nat) (rL_values : Nat) (fL_values : Nat → Int32) (kL_values : ClassId) (rL_supposed : Nat) (fL_supposed : Nat → Int32) (kL_supposed : ClassId) (oC : Nat) (iC_nodes : Int32) (iC_words : Int32) (iC_chances : Int32) (iC_unsures : Int32) (iC_slips : Int32) (iC_throneNode : Int32) (iC_saidWorth : Int32) (iC_unit : Int32) (rC_kind : Nat) (fC_kind : Nat → Int32) (kC_kind : ClassId) (rC_parts : Nat) (fC_parts : Nat → Int32) (kC_parts : ClassId) (rC_partNodes : Nat) (fC_partNodes : Nat → Int32) (kC_partNodes : ClassId) (rC_weights : Nat) (fC_weights : Nat → Int32) (kC_weights : ClassId) (rC_weightSums : Nat) (fC_weightSums : Nat → Int32) (kC_weightSums : ClassId) (rC_toldWorths : Nat) (rC_steps : Nat) (rC_below : Nat) (rC_above : Nat) (rC_unsureWords : Nat) (rC_unsureWorths : Nat) (oS : Nat) (rS_worths : Nat) (fS_worths : Nat → Int32) (kS_worths : ClassId) (rS_order : Nat) (rS_left : Nat) (p0 : Int32) (p1 : Int32) (b_iC_nodes : 0 ≤ iC_nodes.toInt ∧ iC_nodes.toInt ≤ 18) (b_iC_unsures : 0 ≤ iC_unsures.toInt ∧ iC_unsures.toInt ≤ 4) (b_iC_throneNode : (-1) ≤ iC_throneNode.toInt ∧ iC_throneNode.toInt ≤ 17) (a_fC_parts : ∀ j : Nat, j < 18 → 0 ≤ (fC_parts j).toInt ∧ (fC_parts j).toInt ≤ 4) (a_fC_partNodes : ∀ j : Nat, j < 72 → 0 ≤ (fC_partNodes j).toInt ∧ (fC_partNodes j).toInt ≤ 17)  : Met l yX4_throneBySet (Cond.code yX4_throneBySet cX4_throneBySet 6 (some .int) :: wG) ({ frames := 3, cells := 0, slots := 0, locals := 71 }) (va_Pc [.ref oL, .ref oC, .ref oS, .int p0, .int p1] (Pw dC dI sz [(oc4 oL rL_values rL_supposed), (arI rL_values kL_values 18 fL_values), (arI rL_supposed kL_supposed 18 fL_supposed), (oc1 oC iC_nodes iC_words iC_chances iC_unsures iC_slips iC_throneNode iC_saidWorth iC_unit rC_kind rC_parts rC_partNodes rC_weights rC_weightSums rC_toldWorths rC_steps rC_below rC_above rC_unsureWords rC_unsureWorths), (arI rC_kind kC_kind 18 fC_kind), (arI rC_parts kC_parts 18 fC_parts), (arI rC_partNodes kC_partNodes 72 fC_partNodes), (arI rC_weights kC_weights 72 fC_weights), (arI rC_weightSums kC_weightSums 18 fC_weightSums), (oc5 oS rS_worths rS_order rS_left), (arI rS_worths kS_worths 18 fS_worths)] [(kL_values, .int), (kL_supposed, .int), (kC_kind, .int), (kC_parts, .int), (kC_partNodes, .int), (kC_weights, .int), (kC_weightSums, .int), (kS_worths, .int)])) (va_Qi (fun (r : Int32) (_ : Nat) => True ∧ True) (fun (_ : Nat) (t : State) => ∃ (nfL_values : Nat → Int32) (nfL_supposed : Nat → Int32), Bw dC dI (va_A [(oc4 oL rL_values rL_supposed), (arI rL_values kL_values 18 fL_values), (arI rL_supposed kL_supposed 18 fL_supposed), (oc1 oC iC_nodes iC_words iC_chances iC_unsures iC_slips iC_throneNode iC_saidWorth iC_unit rC_kind rC_parts rC_partNodes rC_weights rC_weightSums rC_toldWorths rC_steps rC_below rC_above rC_unsureWords rC_unsureWorths), (arI rC_kind kC_kind 18 fC_kind), (arI rC_parts kC_parts 18 fC_parts), (arI rC_partNodes kC_partNodes 72 fC_partNodes), (arI rC_weights kC_weights 72 fC_weights), (arI rC_weightSums kC_weightSums 18 fC_weightSums), (oc5 oS rS_worths rS_order rS_left), (arI rS_worths kS_worths 18 fS_worths)] sz) [(oc4 oL rL_values rL_supposed), (arI rL_values kL_values 18 nfL_values), (arI rL_supposed kL_supposed 18 nfL_supposed), (oc1 oC iC_nodes iC_words iC_chances iC_unsures iC_slips iC_throneNode iC_saidWorth iC_unit rC_kind rC_parts rC_partNodes rC_weights rC_weightSums rC_toldWorths rC_steps rC_below rC_above rC_unsureWords rC_unsureWorths), (arI rC_kind kC_kind 18 fC_kind), (arI rC_parts kC_parts 18 fC_parts), (arI rC_partNodes kC_partNodes 72 fC_partNodes), (arI rC_weights kC_weights 72 fC_weights), (arI rC_weightSums kC_weightSums 18 fC_weightSums), (oc5 oS rS_worths rS_order rS_left), (arI rS_worths kS_worths 18 fS_worths)] [(kL_values, .int), (kL_supposed, .int), (kC_kind, .int), (kC_parts, .int), (kC_partNodes, .int), (kC_weights, .int), (kC_weightSums, .int), (kS_worths, .int)] t) (va_A [(oc4 oL rL_values rL_supposed), (arI rL_values kL_values 18 fL_values), (arI rL_supposed kL_supposed 18 fL_supposed), (oc1 oC iC_nodes iC_words iC_chances iC_unsures iC_slips iC_throneNode iC_saidWorth iC_unit rC_kind rC_parts rC_partNodes rC_weights rC_weightSums rC_toldWorths rC_steps rC_below rC_above rC_unsureWords rC_unsureWorths), (arI rC_kind kC_kind 18 fC_kind), (arI rC_parts kC_parts 18 fC_parts), (arI rC_partNodes kC_partNodes 72 fC_partNodes), (arI rC_weights kC_weights 72 fC_weights), (arI rC_weightSums kC_weightSums 18 fC_weightSums), (oc5 oS rS_worths rS_order rS_left), (arI rS_worths kS_worths 18 fS_worths)] sz)) 0 0 (va_A [(oc4 oL rL_values rL_supposed), (arI rL_values kL_values 18 fL_values), (arI rL_supposed kL_supposed 18 fL_supposed), (oc1 oC iC_nodes iC_words iC_chances iC_unsures iC_slips iC_throneNode iC_saidWorth iC_unit rC_kind rC_parts rC_partNodes rC_weights rC_weightSums rC_toldWorths rC_steps rC_below rC_above rC_unsureWords rC_unsureWorths), (arI rC_kind kC_kind 18 fC_kind), (arI rC_parts kC_parts 18 fC_parts), (arI rC_partNodes kC_partNodes 72 fC_partNodes), (arI rC_weights kC_weights 72 fC_weights), (arI rC_weightSums kC_weightSums 18 fC_weightSums), (oc5 oS rS_worths rS_order rS_left), (arI rS_worths kS_worths 18 fS_worths)] sz) := by
  refine Met.ofW (cc := cX4_throneBySet) (maxL := 6) (ret := (some .int)) pnX4 rfl ?_
  intro p e s m args below meth c s₁ B hml hv
  obtain ⟨rfl, hsz, hP, hK, hD0, hE⟩ := hv
  have hx := B.exec
  have hb := B.bytes
  have hr := B.returns
  have hts : ∀ w ∈ wG, w.before ([.ref oL, .ref oC, .ref oS, .int p0, .int p1] : List Value).toArray s = true := fun w h => atoms_spec (ws := Cond.code yX4_throneBySet cX4_throneBySet 6 (some .int) :: wG) B.pre w (List.mem_cons_of_mem _ h)
  have hown : s.vm.findClass RX4 = some m.cls := own_of B.named rfl
  have hlocks := B.notSynchronized
  subst hsz
  have hD := hD0.self (sz := s.heap.size)
  generalize hAe : va_A [(oc4 oL rL_values rL_supposed), (arI rL_values kL_values 18 fL_values), (arI rL_supposed kL_supposed 18 fL_supposed), (oc1 oC iC_nodes iC_words iC_chances iC_unsures iC_slips iC_throneNode iC_saidWorth iC_unit rC_kind rC_parts rC_partNodes rC_weights rC_weightSums rC_toldWorths rC_steps rC_below rC_above rC_unsureWords rC_unsureWorths), (arI rC_kind kC_kind 18 fC_kind), (arI rC_parts kC_parts 18 fC_parts), (arI rC_partNodes kC_partNodes 72 fC_partNodes), (arI rC_weights kC_weights 72 fC_weights), (arI rC_weightSums kC_weightSums 18 fC_weightSums), (oc5 oS rS_worths rS_order rS_left), (arI rS_worths kS_worths 18 fS_worths)] s.heap.size = A at hD hE ⊢
  have hA : ∀ q : Nat, s.heap.size ≤ q → A q := fun q h => by rw [← hAe]; exact Or.inr h
  have hS : va_S A s.heap s.heap [] := va_S.rf
  have hl := lv_entry ([.ref oL, .ref oC, .ref oS, .int p0, .int p1]) (n := 6) (Nat.le_of_ble_eq_true rfl)
  rw [lg_entry_eq]
  generalize (lg_sl ([.ref oL, .ref oC, .ref oS, .int p0, .int p1]) ++ List.replicate (6 - (lg_sl ([.ref oL, .ref oC, .ref oS, .int p0, .int p1])).length) Slot.unset).toArray = ls at hl ⊢
  have hl : lv_has ls 6 [(0, .ref oL), (1, .ref oC), (2, .ref oS), (3, .int p0), (4, .int p1)] := hl
  have rg_p0 := fb_rng p0
  have rg_p1 := fb_rng p1
  refine lv_iconst (v := 0) hx hb dX4_throneBySet_0 (by decide) ?_
  refine lv_istore (lv' := [(5, .int 0), (0, .ref oL), (1, .ref oC), (2, .ref oS), (3, .int p0), (4, .int p1)]) hx hb dX4_throneBySet_1 hl (by decide) rfl (fun ls hl => ?_)
  have hl := lv_sub hl (l' := [(5, .int 0), (0, .ref oL), (1, .ref oC), (2, .ref oS), (3, .int p0), (4, .int p1)]) [0, 1, 2, 3, 4, 5] rfl
  have key_n_917 : ∀ (n_917 : Nat) (z_915 : Int32) (f_916 : Nat → Int32) (H : Heap) (locs : List Loc) (ls : Array Slot), (0 ≤ z_915.toInt ∧ z_915.toInt ≤ 2147483647) → (2147483647 - z_915.toInt).toNat < n_917 → va_P (dC, dI) vwCl [(oc4 oL rL_values rL_supposed), (arI rL_values kL_values 18 fL_values), (arI rL_supposed kL_supposed 18 f_916), (oc1 oC iC_nodes iC_words iC_chances iC_unsures iC_slips iC_throneNode iC_saidWorth iC_unit rC_kind rC_parts rC_partNodes rC_weights rC_weightSums rC_toldWorths rC_steps rC_below rC_above rC_unsureWords rC_unsureWorths), (arI rC_kind kC_kind 18 fC_kind), (arI rC_parts kC_parts 18 fC_parts), (arI rC_partNodes kC_partNodes 72 fC_partNodes), (arI rC_weights kC_weights 72 fC_weights), (arI rC_weightSums kC_weightSums 18 fC_weightSums), (oc5 oS rS_worths rS_order rS_left), (arI rS_worths kS_worths 18 fS_worths)] H → va_D A [(oc4 oL rL_values rL_supposed), (arI rL_values kL_values 18 fL_values), (arI rL_supposed kL_supposed 18 f_916), (oc1 oC iC_nodes iC_words iC_chances iC_unsures iC_slips iC_throneNode iC_saidWorth iC_unit rC_kind rC_parts rC_partNodes rC_weights rC_weightSums rC_toldWorths rC_steps rC_below rC_above rC_unsureWords rC_unsureWorths), (arI rC_kind kC_kind 18 fC_kind), (arI rC_parts kC_parts 18 fC_parts), (arI rC_partNodes kC_partNodes 72 fC_partNodes), (arI rC_weights kC_weights 72 fC_weights), (arI rC_weightSums kC_weightSums 18 fC_weightSums), (oc5 oS rS_worths rS_order rS_left), (arI rS_worths kS_worths 18 fS_worths)] → va_S A s.heap H locs → lv_has ls 6 [(5, .int z_915), (0, .ref oL), (1, .ref oC), (2, .ref oS), (3, .int p0), (4, .int p1)] → W p l e (headSpec (Cond.code yX4_throneBySet cX4_throneBySet 6 (some .int) :: wG) ({ frames := 3, cells := 0, slots := 0, locals := 71 })).room s m ([.ref oL, .ref oC, .ref oS, .int p0, .int p1] : List Value).toArray below meth c H locs 0 0 (MQ below (va_Qi (fun (r : Int32) (_ : Nat) => True ∧ True) (fun (_ : Nat) (t : State) => ∃ (nfL_values : Nat → Int32) (nfL_supposed : Nat → Int32), Bw dC dI A [(oc4 oL rL_values rL_supposed), (arI rL_values kL_values 18 nfL_values), (arI rL_supposed kL_supposed 18 nfL_supposed), (oc1 oC iC_nodes iC_words iC_chances iC_unsures iC_slips iC_throneNode iC_saidWorth iC_unit rC_kind rC_parts rC_partNodes rC_weights rC_weightSums rC_toldWorths rC_steps rC_below rC_above rC_unsureWords rC_unsureWorths), (arI rC_kind kC_kind 18 fC_kind), (arI rC_parts kC_parts 18 fC_parts), (arI rC_partNodes kC_partNodes 72 fC_partNodes), (arI rC_weights kC_weights 72 fC_weights), (arI rC_weightSums kC_weightSums 18 fC_weightSums), (oc5 oS rS_worths rS_order rS_left), (arI rS_worths kS_worths 18 fS_worths)] [(kL_values, .int), (kL_supposed, .int), (kC_kind, .int), (kC_parts, .int), (kC_partNodes, .int), (kC_weights, .int), (kC_weightSums, .int), (kS_worths, .int)] t) A) ([.ref oL, .ref oC, .ref oS, .int p0, .int p1] : List Value).toArray s 0 0 A) (F0 m 3 ls []) := by
    intro n_917
    induction n_917 with
    | zero => intro z_915 f_916 H locs ls hi0_n_917 hm; exact absurd hm (Nat.not_lt_zero _)
    | succ n_917 ih_n_917 =>
      intro z_915 f_916 H locs ls hi0_n_917 hm_n_917 hP hD hS hl
      have rg_z_915 := fb_rng z_915
      refine lv_iload hx hb dX4_throneBySet_3 (lv_at hl 0 rfl) ?_
      refine lv_aload_n hx hb dX4_throneBySet_5 rfl (lv_at hl 2 rfl) ?_
      refine va_get (D := (dC, dI)) (ci := 1) (v := .int iC_nodes) (C := RX1) (T := TX1) (N := 19) hx hb hts inX1 hown hK hP 3 rfl rfl 0 (by decide) (hts _ wd_616) (fun _ h9 => h9) rfl dX4_throneBySet_6 ?_
      have rg_iC_nodes := fb_rng iC_nodes
      refine lv_icmp_ge (tgt := 47) hx hb dX4_throneBySet_9 (by decide) (fun c_918 => ?_) (fun c_918 => ?_)
      · skip
        have gc_918 := ti_le c_918 rfl rfl
        refine lv_aload_n hx hb dX4_throneBySet_47 rfl (lv_at hl 1 rfl) ?_
        refine lv_aload_n hx hb dX4_throneBySet_48 rfl (lv_at hl 2 rfl) ?_
        refine lv_aload_n hx hb dX4_throneBySet_49 rfl (lv_at hl 1 rfl) ?_
        refine va_get (D := (dC, dI)) (ci := 4) (v := .ref rL_supposed) (C := RX4) (T := TX4) (N := 2) hx hb hts inX4 hown hK hP 0 rfl rfl 1 (by decide) (hts _ wd_147) (fun _ h9 => h9) rfl dX4_throneBySet_50 ?_
        have hFc := va_free (wc := [(oc4 oL rL_values rL_supposed), (arI rL_values kL_values 18 fL_values), (oc1 oC iC_nodes iC_words iC_chances iC_unsures iC_slips iC_throneNode iC_saidWorth iC_unit rC_kind rC_parts rC_partNodes rC_weights rC_weightSums rC_toldWorths rC_steps rC_below rC_above rC_unsureWords rC_unsureWorths), (arI rC_kind kC_kind 18 fC_kind), (arI rC_parts kC_parts 18 fC_parts), (arI rC_partNodes kC_partNodes 72 fC_partNodes), (arI rC_weights kC_weights 72 fC_weights), (arI rC_weightSums kC_weightSums 18 fC_weightSums), (arI rL_supposed kL_supposed 18 f_916)]) hD hS hA [0, 1, 3, 4, 5, 6, 7, 8, 2] rfl
        refine va_calli (va_runV (As := [.ref oC, .ref rL_supposed]) (rest := []) ⟨hx, hb, hml, hown, hts⟩ (tX4_weighAll l dC dI _ oL rL_values fL_values kL_values rL_supposed oC iC_nodes iC_words iC_chances iC_unsures iC_slips iC_throneNode iC_saidWorth iC_unit rC_kind fC_kind kC_kind rC_parts fC_parts kC_parts rC_partNodes fC_partNodes kC_partNodes rC_weights fC_weights kC_weights rC_weightSums fC_weightSums kC_weightSums rC_toldWorths rC_steps rC_below rC_above rC_unsureWords rC_unsureWorths rL_supposed f_916 kL_supposed b_iC_nodes b_iC_unsures b_iC_throneNode a_fC_parts a_fC_partNodes) (cwV 2 hts (wd_V wd_949 wd_613 wd_614 wd_37 (wd_c wd_615)) rfl rfl rfl dv_yX4_weighAll_2 ⟨Nat.le_of_ble_eq_true rfl, Nat.le_of_ble_eq_true rfl⟩) ⟨Pw.fb, recvX4 hK hP (q0 := 0) rfl, fun U hU hW => Pw.to (hP.sub [0, 1, 3, 4, 5, 6, 7, 8, 2] rfl) (hD.sub [0, 1, 3, 4, 5, 6, 7, 8, 2] (by decide) rfl) (hK.sub [0, 2, 3, 4, 5, 6, 1] rfl) hE hS hFc hU hW⟩ rfl rfl hl.1 rfl (lv_room (Nat.le_of_ble_eq_true rfl)) dX4_throneBySet_53 ⟨Nat.le_of_ble_eq_true rfl, Nat.le_of_ble_eq_true rfl⟩) hS (fun q _ h => hFc q h) hFc (fun r u t H locs ht hvm hw hB hz1 hk1 hS => ?_)
        have hru9 := hw.2
        have hw := hw.1
        refine ex_1_1 hB (fun f_919 e_f_919_0 hB => ?_)
        obtain ⟨hP, hD, hK⟩ := Bw.go (ws' := [(oc5 oS rS_worths rS_order rS_left), (arI rS_worths kS_worths 18 fS_worths), (oc4 oL rL_values rL_supposed), (arI rL_values kL_values 18 f_919), (oc1 oC iC_nodes iC_words iC_chances iC_unsures iC_slips iC_throneNode iC_saidWorth iC_unit rC_kind rC_parts rC_partNodes rC_weights rC_weightSums rC_toldWorths rC_steps rC_below rC_above rC_unsureWords rC_unsureWorths), (arI rC_kind kC_kind 18 fC_kind), (arI rC_parts kC_parts 18 fC_parts), (arI rC_partNodes kC_partNodes 72 fC_partNodes), (arI rC_weights kC_weights 72 fC_weights), (arI rC_weightSums kC_weightSums 18 fC_weightSums), (arI rL_supposed kL_supposed 18 f_916)]) (tys' := [(kS_worths, .int), (kL_values, .int), (kC_kind, .int), (kC_parts, .int), (kC_partNodes, .int), (kC_weights, .int), (kC_weightSums, .int), (kL_supposed, .int)]) hB rfl ht hvm hP hD hK [0, 1, 3, 4, 5, 6, 7, 8, 2] [9, 10] rfl (by decide) (by decide) [7] hk1 hFc rfl rfl rfl
        clear hz1 hk1 hvm ht hB
        obtain ⟨x_920, rfl⟩ : ∃ z, z = r := ⟨_, rfl⟩
        have rg_x_920 := fb_rng x_920
        exact wq_i hx hb hr 0 ⟨trivial, trivial⟩ (fun t ht hW => ⟨f_919, f_916, Bw.to (hP.sub [2, 3, 10, 4, 5, 6, 7, 8, 9, 0, 1] rfl) (hD.sub [2, 3, 10, 4, 5, 6, 7, 8, 9, 0, 1] (by decide) rfl) (hK.sub [1, 7, 2, 3, 4, 5, 6, 0] rfl) ht hW⟩) hS dX4_throneBySet_56 hlocks
      · skip
        have gc_918 := ti_nle c_918 rfl rfl
        refine lv_aload_n hx hb dX4_throneBySet_12 rfl (lv_at hl 1 rfl) ?_
        refine va_get (D := (dC, dI)) (ci := 4) (v := .ref rL_supposed) (C := RX4) (T := TX4) (N := 2) hx hb hts inX4 hown hK hP 0 rfl rfl 1 (by decide) (hts _ wd_147) (fun _ h9 => h9) rfl dX4_throneBySet_13 ?_
        refine lv_iload hx hb dX4_throneBySet_16 (lv_at hl 0 rfl) ?_
        refine lv_iload_n hx hb dX4_throneBySet_18 rfl (lv_at hl 4 rfl) ?_
        refine lv_iload hx hb dX4_throneBySet_19 (lv_at hl 0 rfl) ?_
        refine lv_ishr hx hb dX4_throneBySet_21 ?_
        refine lv_topi (fun x_921 ex_921 => ?_)
        have rg_x_921 := fb_rng x_921
        refine lv_iconst (v := 1) hx hb dX4_throneBySet_22 (by decide) ?_
        refine lv_iand hx hb dX4_throneBySet_23 ?_
        refine lv_topi (fun x_922 ex_922 => ?_)
        have rg_x_922 := fb_rng x_922
        refine lv_iconst (v := 1) hx hb dX4_throneBySet_24 (by decide) ?_
        refine lv_icmp_ne (tgt := 38) hx hb dX4_throneBySet_25 (by decide) (fun c_923 => ?_) (fun c_923 => ?_)
        · skip
          have gc_923 := ti_ne c_923 rfl kc_1
          refine lv_iload hx hb dX4_throneBySet_38 (lv_at hl 5 rfl) ?_
          refine vz_iast hx hb hK hP hD hS 2 1 rfl rfl (ti_in rfl hi0_n_917.1 (om_97cd4a7c b_iC_nodes.2 gc_918)) dX4_throneBySet_40 (fun H locs f_924 hP hD hS => ?_)
          obtain ⟨hP, hD⟩ := wl2 (ws' := [(oc4 oL rL_values rL_supposed), (arI rL_values kL_values 18 fL_values), (arI rL_supposed kL_supposed 18 f_924), (oc1 oC iC_nodes iC_words iC_chances iC_unsures iC_slips iC_throneNode iC_saidWorth iC_unit rC_kind rC_parts rC_partNodes rC_weights rC_weightSums rC_toldWorths rC_steps rC_below rC_above rC_unsureWords rC_unsureWorths), (arI rC_kind kC_kind 18 fC_kind), (arI rC_parts kC_parts 18 fC_parts), (arI rC_partNodes kC_partNodes 72 fC_partNodes), (arI rC_weights kC_weights 72 fC_weights), (arI rC_weightSums kC_weightSums 18 fC_weightSums), (oc5 oS rS_worths rS_order rS_left), (arI rS_worths kS_worths 18 fS_worths)]) hP hD rfl
          obtain ⟨x_925, ex_925⟩ : ∃ z : Int32, z = z_915 + Int32.ofInt 1 := ⟨_, rfl⟩
          have vx_925 : x_925.toInt = z_915.toInt + 1 := ti_add (y := 1) ex_925 rfl kc_1 (om_4e4fce7e hi0_n_917.1) (om_a32d6481 b_iC_nodes.2 gc_918)
          refine lv_iinc (v := x_925) (lv' := [(5, .int x_925), (0, .ref oL), (1, .ref oC), (2, .ref oS), (3, .int p0), (4, .int p1)]) hx hb dX4_throneBySet_41 hl (k := 0) rfl ex_925.symm (by decide) rfl (fun ls hl => ?_)
          refine lv_goto (tgt := 3) hx hb dX4_throneBySet_44 (by decide) ?_
          exact ih_n_917 x_925 f_924 _ _ _  ⟨(om_83b90de5 hi0_n_917.1 vx_925), (om_ed8867da b_iC_nodes.2 gc_918 vx_925)⟩ (ms_lt hm_n_917 (om_b9393183 vx_925) (om_1d9fa7fb b_iC_nodes.2 gc_918)) hP hD hS (lv_sub hl [0, 1, 2, 3, 4, 5] rfl)
        · skip
          have gc_923 := ti_eq c_923 rfl kc_1
          refine lv_aload_n hx hb dX4_throneBySet_28 rfl (lv_at hl 3 rfl) ?_
          refine va_get (D := (dC, dI)) (ci := 5) (v := .ref rS_worths) (C := RX5) (T := TX5) (N := 3) hx hb hts inX5 hown hK hP 9 rfl rfl 0 (by decide) (hts _ wd_948) (fun _ h9 => h9) rfl dX4_throneBySet_29 ?_
          refine lv_iload hx hb dX4_throneBySet_32 (lv_at hl 0 rfl) ?_
          refine va_iald hx hb hK hP 10 7 rfl rfl (ti_in rfl hi0_n_917.1 (om_97cd4a7c b_iC_nodes.2 gc_918)) dX4_throneBySet_34 ?_
          refine lv_topi (fun x_926 ex_926 => ?_)
          have rg_x_926 := fb_rng x_926
          have kx_926 : (fS_worths z_915.toNatClampNeg).toInt = x_926.toInt := by rw [ex_926]
          refine lv_goto (tgt := 40) hx hb dX4_throneBySet_35 (by decide) ?_
          refine vz_iast hx hb hK hP hD hS 2 1 rfl rfl (ti_in rfl hi0_n_917.1 (om_97cd4a7c b_iC_nodes.2 gc_918)) dX4_throneBySet_40 (fun H locs f_927 hP hD hS => ?_)
          obtain ⟨hP, hD⟩ := wl2 (ws' := [(oc4 oL rL_values rL_supposed), (arI rL_values kL_values 18 fL_values), (arI rL_supposed kL_supposed 18 f_927), (oc1 oC iC_nodes iC_words iC_chances iC_unsures iC_slips iC_throneNode iC_saidWorth iC_unit rC_kind rC_parts rC_partNodes rC_weights rC_weightSums rC_toldWorths rC_steps rC_below rC_above rC_unsureWords rC_unsureWorths), (arI rC_kind kC_kind 18 fC_kind), (arI rC_parts kC_parts 18 fC_parts), (arI rC_partNodes kC_partNodes 72 fC_partNodes), (arI rC_weights kC_weights 72 fC_weights), (arI rC_weightSums kC_weightSums 18 fC_weightSums), (oc5 oS rS_worths rS_order rS_left), (arI rS_worths kS_worths 18 fS_worths)]) hP hD rfl
          obtain ⟨x_928, ex_928⟩ : ∃ z : Int32, z = z_915 + Int32.ofInt 1 := ⟨_, rfl⟩
          have vx_928 : x_928.toInt = z_915.toInt + 1 := ti_add (y := 1) ex_928 rfl kc_1 (om_4e4fce7e hi0_n_917.1) (om_a32d6481 b_iC_nodes.2 gc_918)
          refine lv_iinc (v := x_928) (lv' := [(5, .int x_928), (0, .ref oL), (1, .ref oC), (2, .ref oS), (3, .int p0), (4, .int p1)]) hx hb dX4_throneBySet_41 hl (k := 0) rfl ex_928.symm (by decide) rfl (fun ls hl => ?_)
          refine lv_goto (tgt := 3) hx hb dX4_throneBySet_44 (by decide) ?_
          exact ih_n_917 x_928 f_927 _ _ _  ⟨(om_83b90de5 hi0_n_917.1 vx_928), (om_ed8867da b_iC_nodes.2 gc_918 vx_928)⟩ (ms_lt hm_n_917 (om_b9393183 vx_928) (om_1d9fa7fb b_iC_nodes.2 gc_918)) hP hD hS (lv_sub hl [0, 1, 2, 3, 4, 5] rfl)
  exact key_n_917 (((2147483647 - (0 : Int32).toInt).toNat) + 1) 0 fL_supposed _ _ _  ⟨(om_b1de7dbe kc_0), (om_daf17c64 kc_0)⟩ (Nat.lt_add_one _) hP hD hS hl
set_option maxHeartbeats 4000000 in
set_option maxRecDepth 100000 in
theorem tX4_throneByUnsure (l : Launch) (dC : Nat → ClassId) (dI : Nat → Nat → Nat) (sz : Nat) (oL : Nat) (rL_values : Nat) (fL_values : Nat → Int32) (kL_values : ClassId) (rL_supposed : Nat) (fL_supposed : Nat → Int32) (kL_supposed : ClassId) (oC : Nat) (iC_nodes : Int32) (iC_words : Int32) (iC_chances : Int32) (iC_unsures : Int32) (iC_slips : Int32) (iC_throneNode : Int32) (iC_saidWorth : Int32) (iC_unit : Int32) (rC_kind : Nat) (fC_kind : Nat → Int32) (kC_kind : ClassId) (rC_parts : Nat) (fC_parts : Nat → Int32) (kC_parts : ClassId) (rC_partNodes : Nat) (fC_partNodes : Nat → Int32) (kC_partNodes : ClassId) (rC_weights : Nat) (fC_weights : Nat → Int32) (kC_weights : ClassId) (rC_weightSums : Nat) (fC_weightSums : Nat → Int32) (kC_weightSums : ClassId) (rC_toldWorths : Nat) (rC_steps : Nat) (rC_below : Nat) (rC_above : Nat) (rC_unsureWords : Nat) (fC_unsureWords : Nat → Int32) (kC_unsureWords : ClassId) (rC_unsureWorths : Nat) (fC_unsureWorths : Nat → Int32) (kC_unsureWorths : ClassId) (rW : Nat) (fW : Nat → Int32) (kW : ClassId) (p0 : Int32) (b_iC_nodes : 0 ≤ iC_nodes.toInt ∧ iC_nodes.toInt ≤ 18) (b_iC_unsures : 0 ≤ iC_unsures.toInt ∧ iC_unsures.toInt ≤ 4) (b_iC_throneNode : (-1) ≤ iC_throneNode.toInt ∧ iC_throneNode.toInt ≤ 17) (a_fC_parts : ∀ j : Nat, j < 18 → 0 ≤ (fC_parts j).toInt ∧ (fC_parts j).toInt ≤ 4) (a_fC_partNodes : ∀ j : Nat, j < 72 → 0 ≤ (fC_partNodes j).toInt ∧ (fC_partNodes j).toInt ≤ 17) (a_fC_unsureWords : ∀ j : Nat, j < 4 → 0 ≤ (fC_unsureWords j).toInt ∧ (fC_unsureWords j).toInt ≤ 17)  : Met l yX4_throneByUnsure (Cond.code yX4_throneByUnsure cX4_throneByUnsure 5 (some .int) :: wG) ({ frames := 3, cells := 0, slots := 0, locals := 71 }) (va_Pc [.ref oL, .ref oC, .ref rW, .int p0] (Pw dC dI sz [(oc4 oL rL_values rL_supposed), (arI rL_values kL_values 18 fL_values), (arI rL_supposed kL_supposed 18 fL_supposed), (oc1 oC iC_nodes iC_words iC_chances iC_unsures iC_slips iC_throneNode iC_saidWorth iC_unit rC_kind rC_parts rC_partNodes rC_weights rC_weightSums rC_toldWorths rC_steps rC_below rC_above rC_unsureWords rC_unsureWorths), (arI rC_kind kC_kind 18 fC_kind), (arI rC_parts kC_parts 18 fC_parts), (arI rC_partNodes kC_partNodes 72 fC_partNodes), (arI rC_weights kC_weights 72 fC_weights), (arI rC_weightSums kC_weightSums 18 fC_weightSums), (arI rC_unsureWords kC_unsureWords 4 fC_unsureWords), (arI rC_unsureWorths kC_unsureWorths 4 fC_unsureWorths), (arI rW kW 18 fW)] [(kL_values, .int), (kL_supposed, .int), (kC_kind, .int), (kC_parts, .int), (kC_partNodes, .int), (kC_weights, .int), (kC_weightSums, .int), (kC_unsureWords, .int), (kC_unsureWorths, .int), (kW, .int)])) (va_Qi (fun (r : Int32) (u : Nat) => (True ∧ True) ∧ r = Int32.ofNat u) (fun (u : Nat) (t : State) => ∃ (nfL_values : Nat → Int32) (nfL_supposed : Nat → Int32), (PX4_throneByUnsure fL_values fL_supposed iC_nodes iC_unsures iC_throneNode iC_unit fC_kind fC_parts fC_partNodes fC_weights fC_weightSums fC_unsureWords fC_unsureWorths fW p0 = (Int32.ofNat u, nfL_values, nfL_supposed)) ∧ Bw dC dI (va_A [(oc4 oL rL_values rL_supposed), (arI rL_values kL_values 18 fL_values), (arI rL_supposed kL_supposed 18 fL_supposed), (oc1 oC iC_nodes iC_words iC_chances iC_unsures iC_slips iC_throneNode iC_saidWorth iC_unit rC_kind rC_parts rC_partNodes rC_weights rC_weightSums rC_toldWorths rC_steps rC_below rC_above rC_unsureWords rC_unsureWorths), (arI rC_kind kC_kind 18 fC_kind), (arI rC_parts kC_parts 18 fC_parts), (arI rC_partNodes kC_partNodes 72 fC_partNodes), (arI rC_weights kC_weights 72 fC_weights), (arI rC_weightSums kC_weightSums 18 fC_weightSums), (arI rC_unsureWords kC_unsureWords 4 fC_unsureWords), (arI rC_unsureWorths kC_unsureWorths 4 fC_unsureWorths), (arI rW kW 18 fW)] sz) [(oc4 oL rL_values rL_supposed), (arI rL_values kL_values 18 nfL_values), (arI rL_supposed kL_supposed 18 nfL_supposed), (oc1 oC iC_nodes iC_words iC_chances iC_unsures iC_slips iC_throneNode iC_saidWorth iC_unit rC_kind rC_parts rC_partNodes rC_weights rC_weightSums rC_toldWorths rC_steps rC_below rC_above rC_unsureWords rC_unsureWorths), (arI rC_kind kC_kind 18 fC_kind), (arI rC_parts kC_parts 18 fC_parts), (arI rC_partNodes kC_partNodes 72 fC_partNodes), (arI rC_weights kC_weights 72 fC_weights), (arI rC_weightSums kC_weightSums 18 fC_weightSums), (arI rC_unsureWords kC_unsureWords 4 fC_unsureWords), (arI rC_unsureWorths kC_unsureWorths 4 fC_unsureWorths), (arI rW kW 18 fW)] [(kL_values, .int), (kL_supposed, .int), (kC_kind, .int), (kC_parts, .int), (kC_partNodes, .int), (kC_weights, .int), (kC_weightSums, .int), (kC_unsureWords, .int), (kC_unsureWorths, .int), (kW, .int)] t) (va_A [(oc4 oL rL_values rL_supposed), (arI rL_values kL_values 18 fL_values), (arI rL_supposed kL_supposed 18 fL_supposed), (oc1 oC iC_nodes iC_words iC_chances iC_unsures iC_slips iC_throneNode iC_saidWorth iC_unit rC_kind rC_parts rC_partNodes rC_weights rC_weightSums rC_toldWorths rC_steps rC_below rC_above rC_unsureWords rC_unsureWorths), (arI rC_kind kC_kind 18 fC_kind), (arI rC_parts kC_parts 18 fC_parts), (arI rC_partNodes kC_partNodes 72 fC_partNodes), (arI rC_weights kC_weights 72 fC_weights), (arI rC_weightSums kC_weightSums 18 fC_weightSums), (arI rC_unsureWords kC_unsureWords 4 fC_unsureWords), (arI rC_unsureWorths kC_unsureWorths 4 fC_unsureWorths), (arI rW kW 18 fW)] sz)) 0 0 (va_A [(oc4 oL rL_values rL_supposed), (arI rL_values kL_values 18 fL_values), (arI rL_supposed kL_supposed 18 fL_supposed), (oc1 oC iC_nodes iC_words iC_chances iC_unsures iC_slips iC_throneNode iC_saidWorth iC_unit rC_kind rC_parts rC_partNodes rC_weights rC_weightSums rC_toldWorths rC_steps rC_below rC_above rC_unsureWords rC_unsureWorths), (arI rC_kind kC_kind 18 fC_kind), (arI rC_parts kC_parts 18 fC_parts), (arI rC_partNodes kC_partNodes 72 fC_partNodes), (arI rC_weights kC_weights 72 fC_weights), (arI rC_weightSums kC_weightSums 18 fC_weightSums), (arI rC_unsureWords kC_unsureWords 4 fC_unsureWords), (arI rC_unsureWorths kC_unsureWorths 4 fC_unsureWorths), (arI rW kW 18 fW)] sz) := by
  refine Met.ofW (cc := cX4_throneByUnsure) (maxL := 5) (ret := (some .int)) pnX4 rfl ?_
  intro p e s m args below meth c s₁ B hml hv
  obtain ⟨rfl, hsz, hP, hK, hD0, hE⟩ := hv
  have hx := B.exec
  have hb := B.bytes
  have hr := B.returns
  have hts : ∀ w ∈ wG, w.before ([.ref oL, .ref oC, .ref rW, .int p0] : List Value).toArray s = true := fun w h => atoms_spec (ws := Cond.code yX4_throneByUnsure cX4_throneByUnsure 5 (some .int) :: wG) B.pre w (List.mem_cons_of_mem _ h)
  have hown : s.vm.findClass RX4 = some m.cls := own_of B.named rfl
  have hlocks := B.notSynchronized
  subst hsz
  have hD := hD0.self (sz := s.heap.size)
  generalize hAe : va_A [(oc4 oL rL_values rL_supposed), (arI rL_values kL_values 18 fL_values), (arI rL_supposed kL_supposed 18 fL_supposed), (oc1 oC iC_nodes iC_words iC_chances iC_unsures iC_slips iC_throneNode iC_saidWorth iC_unit rC_kind rC_parts rC_partNodes rC_weights rC_weightSums rC_toldWorths rC_steps rC_below rC_above rC_unsureWords rC_unsureWorths), (arI rC_kind kC_kind 18 fC_kind), (arI rC_parts kC_parts 18 fC_parts), (arI rC_partNodes kC_partNodes 72 fC_partNodes), (arI rC_weights kC_weights 72 fC_weights), (arI rC_weightSums kC_weightSums 18 fC_weightSums), (arI rC_unsureWords kC_unsureWords 4 fC_unsureWords), (arI rC_unsureWorths kC_unsureWorths 4 fC_unsureWorths), (arI rW kW 18 fW)] s.heap.size = A at hD hE ⊢
  have hA : ∀ q : Nat, s.heap.size ≤ q → A q := fun q h => by rw [← hAe]; exact Or.inr h
  have hS : va_S A s.heap s.heap [] := va_S.rf
  have hl := lv_entry ([.ref oL, .ref oC, .ref rW, .int p0]) (n := 5) (Nat.le_of_ble_eq_true rfl)
  rw [lg_entry_eq]
  generalize (lg_sl ([.ref oL, .ref oC, .ref rW, .int p0]) ++ List.replicate (5 - (lg_sl ([.ref oL, .ref oC, .ref rW, .int p0])).length) Slot.unset).toArray = ls at hl ⊢
  have hl : lv_has ls 5 [(0, .ref oL), (1, .ref oC), (2, .ref rW), (3, .int p0)] := hl
  have hG := PX4_throneByUnsure_eq fL_values fL_supposed iC_nodes iC_unsures iC_throneNode iC_unit fC_kind fC_parts fC_partNodes fC_weights fC_weightSums fC_unsureWords fC_unsureWorths fW p0
  have rg_p0 := fb_rng p0
  refine lv_aload_n hx hb dX4_throneByUnsure_0 rfl (lv_at hl 2 rfl) ?_
  refine lv_iconst (v := 0) hx hb dX4_throneByUnsure_1 (by decide) ?_
  refine lv_aload_n hx hb dX4_throneByUnsure_2 rfl (lv_at hl 0 rfl) ?_
  refine va_get (D := (dC, dI)) (ci := 4) (v := .ref rL_supposed) (C := RX4) (T := TX4) (N := 2) hx hb hts inX4 hown hK hP 0 rfl rfl 1 (by decide) (hts _ wd_147) (fun _ h9 => h9) rfl dX4_throneByUnsure_3 ?_
  refine lv_iconst (v := 0) hx hb dX4_throneByUnsure_6 (by decide) ?_
  refine lv_bipush (v := 18) hx hb dX4_throneByUnsure_7 (by decide) ?_
  refine vz_copyE hx hb (hml.trans hl.1.symm) hown (hts _ wd_1134) (hts _ wd_1016) (hts _ wd_1017) (hts _ wd_1018) hK hP hD hS 11 2 9 1 rfl rfl rfl rfl (k := 18) (by decide) (by decide) (Nat.le_of_ble_eq_true rfl) (Nat.le_of_ble_eq_true (by decide +kernel)) dX4_throneByUnsure_9 (fun H locs f_958 ef_958 c_f_958 hP hD hS => ?_)
  have hG := hG.trans (lt_eq ef_958)
  obtain ⟨hP, hD⟩ := wl2 (ws' := [(oc4 oL rL_values rL_supposed), (arI rL_values kL_values 18 fL_values), (arI rL_supposed kL_supposed 18 f_958), (oc1 oC iC_nodes iC_words iC_chances iC_unsures iC_slips iC_throneNode iC_saidWorth iC_unit rC_kind rC_parts rC_partNodes rC_weights rC_weightSums rC_toldWorths rC_steps rC_below rC_above rC_unsureWords rC_unsureWorths), (arI rC_kind kC_kind 18 fC_kind), (arI rC_parts kC_parts 18 fC_parts), (arI rC_partNodes kC_partNodes 72 fC_partNodes), (arI rC_weights kC_weights 72 fC_weights), (arI rC_weightSums kC_weightSums 18 fC_weightSums), (arI rC_unsureWords kC_unsureWords 4 fC_unsureWords), (arI rC_unsureWorths kC_unsureWorths 4 fC_unsureWorths), (arI rW kW 18 fW)]) hP hD rfl
  refine lv_iconst (v := 0) hx hb dX4_throneByUnsure_12 (by decide) ?_
  refine lv_istore (lv' := [(4, .int 0), (0, .ref oL), (1, .ref oC), (2, .ref rW), (3, .int p0)]) hx hb dX4_throneByUnsure_13 hl (by decide) rfl (fun ls hl => ?_)
  have hl := lv_sub hl (l' := [(4, .int 0), (0, .ref oL), (1, .ref oC), (2, .ref rW), (3, .int p0)]) [0, 1, 2, 3, 4] rfl
  have key_n_961 : ∀ (n_961 : Nat) (z_959 : Int32) (f_960 : Nat → Int32) (H : Heap) (locs : List Loc) (ls : Array Slot), (0 ≤ z_959.toInt ∧ z_959.toInt ≤ 2147483647) → (2147483647 - z_959.toInt).toNat < n_961 → (PX4_throneByUnsure fL_values fL_supposed iC_nodes iC_unsures iC_throneNode iC_unit fC_kind fC_parts fC_partNodes fC_weights fC_weightSums fC_unsureWords fC_unsureWorths fW p0 = HX4_throneByUnsure_0 fL_values iC_nodes iC_unsures iC_throneNode iC_unit fC_kind fC_parts fC_partNodes fC_weights fC_weightSums fC_unsureWords fC_unsureWorths p0 n_961 z_959 f_960) → va_P (dC, dI) vwCl [(oc4 oL rL_values rL_supposed), (arI rL_values kL_values 18 fL_values), (arI rL_supposed kL_supposed 18 f_960), (oc1 oC iC_nodes iC_words iC_chances iC_unsures iC_slips iC_throneNode iC_saidWorth iC_unit rC_kind rC_parts rC_partNodes rC_weights rC_weightSums rC_toldWorths rC_steps rC_below rC_above rC_unsureWords rC_unsureWorths), (arI rC_kind kC_kind 18 fC_kind), (arI rC_parts kC_parts 18 fC_parts), (arI rC_partNodes kC_partNodes 72 fC_partNodes), (arI rC_weights kC_weights 72 fC_weights), (arI rC_weightSums kC_weightSums 18 fC_weightSums), (arI rC_unsureWords kC_unsureWords 4 fC_unsureWords), (arI rC_unsureWorths kC_unsureWorths 4 fC_unsureWorths), (arI rW kW 18 fW)] H → va_D A [(oc4 oL rL_values rL_supposed), (arI rL_values kL_values 18 fL_values), (arI rL_supposed kL_supposed 18 f_960), (oc1 oC iC_nodes iC_words iC_chances iC_unsures iC_slips iC_throneNode iC_saidWorth iC_unit rC_kind rC_parts rC_partNodes rC_weights rC_weightSums rC_toldWorths rC_steps rC_below rC_above rC_unsureWords rC_unsureWorths), (arI rC_kind kC_kind 18 fC_kind), (arI rC_parts kC_parts 18 fC_parts), (arI rC_partNodes kC_partNodes 72 fC_partNodes), (arI rC_weights kC_weights 72 fC_weights), (arI rC_weightSums kC_weightSums 18 fC_weightSums), (arI rC_unsureWords kC_unsureWords 4 fC_unsureWords), (arI rC_unsureWorths kC_unsureWorths 4 fC_unsureWorths), (arI rW kW 18 fW)] → va_S A s.heap H locs → lv_has ls 5 [(4, .int z_959), (0, .ref oL), (1, .ref oC), (2, .ref rW), (3, .int p0)] → W p l e (headSpec (Cond.code yX4_throneByUnsure cX4_throneByUnsure 5 (some .int) :: wG) ({ frames := 3, cells := 0, slots := 0, locals := 71 })).room s m ([.ref oL, .ref oC, .ref rW, .int p0] : List Value).toArray below meth c H locs 0 0 (MQ below (va_Qi (fun (r : Int32) (u : Nat) => (True ∧ True) ∧ r = Int32.ofNat u) (fun (u : Nat) (t : State) => ∃ (nfL_values : Nat → Int32) (nfL_supposed : Nat → Int32), (PX4_throneByUnsure fL_values fL_supposed iC_nodes iC_unsures iC_throneNode iC_unit fC_kind fC_parts fC_partNodes fC_weights fC_weightSums fC_unsureWords fC_unsureWorths fW p0 = (Int32.ofNat u, nfL_values, nfL_supposed)) ∧ Bw dC dI A [(oc4 oL rL_values rL_supposed), (arI rL_values kL_values 18 nfL_values), (arI rL_supposed kL_supposed 18 nfL_supposed), (oc1 oC iC_nodes iC_words iC_chances iC_unsures iC_slips iC_throneNode iC_saidWorth iC_unit rC_kind rC_parts rC_partNodes rC_weights rC_weightSums rC_toldWorths rC_steps rC_below rC_above rC_unsureWords rC_unsureWorths), (arI rC_kind kC_kind 18 fC_kind), (arI rC_parts kC_parts 18 fC_parts), (arI rC_partNodes kC_partNodes 72 fC_partNodes), (arI rC_weights kC_weights 72 fC_weights), (arI rC_weightSums kC_weightSums 18 fC_weightSums), (arI rC_unsureWords kC_unsureWords 4 fC_unsureWords), (arI rC_unsureWorths kC_unsureWorths 4 fC_unsureWorths), (arI rW kW 18 fW)] [(kL_values, .int), (kL_supposed, .int), (kC_kind, .int), (kC_parts, .int), (kC_partNodes, .int), (kC_weights, .int), (kC_weightSums, .int), (kC_unsureWords, .int), (kC_unsureWorths, .int), (kW, .int)] t) A) ([.ref oL, .ref oC, .ref rW, .int p0] : List Value).toArray s 0 0 A) (F0 m 15 ls []) := by
    intro n_961
    induction n_961 with
    | zero => intro z_959 f_960 H locs ls hi0_n_961 hm; exact absurd hm (Nat.not_lt_zero _)
    | succ n_961 ih_n_961 =>
      intro z_959 f_960 H locs ls hi0_n_961 hm_n_961 hG hP hD hS hl
      have hG := hG.trans (HX4_throneByUnsure_0_eq _ _ _ _ _ _ _ _ _ _ _ _ _ _ _ _)
      have rg_z_959 := fb_rng z_959
      refine lv_iload hx hb dX4_throneByUnsure_15 (lv_at hl 0 rfl) ?_
      refine lv_aload_n hx hb dX4_throneByUnsure_17 rfl (lv_at hl 2 rfl) ?_
      refine va_get (D := (dC, dI)) (ci := 1) (v := .int iC_unsures) (C := RX1) (T := TX1) (N := 19) hx hb hts inX1 hown hK hP 3 rfl rfl 3 (by decide) (hts _ wd_1173) (fun _ h9 => h9) rfl dX4_throneByUnsure_18 ?_
      have rg_iC_unsures := fb_rng iC_unsures
      refine lv_icmp_ge (tgt := 59) hx hb dX4_throneByUnsure_21 (by decide) (fun c_962 => ?_) (fun c_962 => ?_)
      · skip
        have hG := hG.trans (if_pos c_962)
        have gc_962 := ti_le c_962 rfl rfl
        refine lv_aload_n hx hb dX4_throneByUnsure_59 rfl (lv_at hl 1 rfl) ?_
        refine lv_aload_n hx hb dX4_throneByUnsure_60 rfl (lv_at hl 2 rfl) ?_
        refine lv_aload_n hx hb dX4_throneByUnsure_61 rfl (lv_at hl 1 rfl) ?_
        refine va_get (D := (dC, dI)) (ci := 4) (v := .ref rL_supposed) (C := RX4) (T := TX4) (N := 2) hx hb hts inX4 hown hK hP 0 rfl rfl 1 (by decide) (hts _ wd_147) (fun _ h9 => h9) rfl dX4_throneByUnsure_62 ?_
        have hFc := va_free (wc := [(oc4 oL rL_values rL_supposed), (arI rL_values kL_values 18 fL_values), (oc1 oC iC_nodes iC_words iC_chances iC_unsures iC_slips iC_throneNode iC_saidWorth iC_unit rC_kind rC_parts rC_partNodes rC_weights rC_weightSums rC_toldWorths rC_steps rC_below rC_above rC_unsureWords rC_unsureWorths), (arI rC_kind kC_kind 18 fC_kind), (arI rC_parts kC_parts 18 fC_parts), (arI rC_partNodes kC_partNodes 72 fC_partNodes), (arI rC_weights kC_weights 72 fC_weights), (arI rC_weightSums kC_weightSums 18 fC_weightSums), (arI rL_supposed kL_supposed 18 f_960)]) hD hS hA [0, 1, 3, 4, 5, 6, 7, 8, 2] rfl
        refine va_calli (va_runV (As := [.ref oC, .ref rL_supposed]) (rest := []) ⟨hx, hb, hml, hown, hts⟩ (tX4_weighAll l dC dI _ oL rL_values fL_values kL_values rL_supposed oC iC_nodes iC_words iC_chances iC_unsures iC_slips iC_throneNode iC_saidWorth iC_unit rC_kind fC_kind kC_kind rC_parts fC_parts kC_parts rC_partNodes fC_partNodes kC_partNodes rC_weights fC_weights kC_weights rC_weightSums fC_weightSums kC_weightSums rC_toldWorths rC_steps rC_below rC_above rC_unsureWords rC_unsureWorths rL_supposed f_960 kL_supposed b_iC_nodes b_iC_unsures b_iC_throneNode a_fC_parts a_fC_partNodes) (cwV 2 hts (wd_V wd_949 wd_613 wd_614 wd_37 (wd_c wd_615)) rfl rfl rfl dv_yX4_weighAll_2 ⟨Nat.le_of_ble_eq_true rfl, Nat.le_of_ble_eq_true rfl⟩) ⟨Pw.fb, recvX4 hK hP (q0 := 0) rfl, fun U hU hW => Pw.to (hP.sub [0, 1, 3, 4, 5, 6, 7, 8, 2] rfl) (hD.sub [0, 1, 3, 4, 5, 6, 7, 8, 2] (by decide) rfl) (hK.sub [0, 2, 3, 4, 5, 6, 1] rfl) hE hS hFc hU hW⟩ rfl rfl hl.1 rfl (lv_room (Nat.le_of_ble_eq_true rfl)) dX4_throneByUnsure_65 ⟨Nat.le_of_ble_eq_true rfl, Nat.le_of_ble_eq_true rfl⟩) hS (fun q _ h => hFc q h) hFc (fun r u t H locs ht hvm hw hB hz1 hk1 hS => ?_)
        have hru9 := hw.2
        have hw := hw.1
        refine ex_1_1 hB (fun f_963 e_f_963_0 hB => ?_)
        obtain ⟨hP, hD, hK⟩ := Bw.go (ws' := [(arI rC_unsureWords kC_unsureWords 4 fC_unsureWords), (arI rC_unsureWorths kC_unsureWorths 4 fC_unsureWorths), (arI rW kW 18 fW), (oc4 oL rL_values rL_supposed), (arI rL_values kL_values 18 f_963), (oc1 oC iC_nodes iC_words iC_chances iC_unsures iC_slips iC_throneNode iC_saidWorth iC_unit rC_kind rC_parts rC_partNodes rC_weights rC_weightSums rC_toldWorths rC_steps rC_below rC_above rC_unsureWords rC_unsureWorths), (arI rC_kind kC_kind 18 fC_kind), (arI rC_parts kC_parts 18 fC_parts), (arI rC_partNodes kC_partNodes 72 fC_partNodes), (arI rC_weights kC_weights 72 fC_weights), (arI rC_weightSums kC_weightSums 18 fC_weightSums), (arI rL_supposed kL_supposed 18 f_960)]) (tys' := [(kC_unsureWords, .int), (kC_unsureWorths, .int), (kW, .int), (kL_values, .int), (kC_kind, .int), (kC_parts, .int), (kC_partNodes, .int), (kC_weights, .int), (kC_weightSums, .int), (kL_supposed, .int)]) hB rfl ht hvm hP hD hK [0, 1, 3, 4, 5, 6, 7, 8, 2] [9, 10, 11] rfl (by decide) (by decide) [7, 8, 9] hk1 hFc rfl rfl rfl
        clear hz1 hk1 hvm ht hB
        rw [← hru9] at e_f_963_0
        obtain ⟨x_964, rfl⟩ : ∃ z, z = r := ⟨_, rfl⟩
        have hG := hG.trans (un2_eq e_f_963_0)
        have rg_x_964 := fb_rng x_964
        exact wq_i hx hb hr (cI x_964) ⟨⟨trivial, trivial⟩, (cI_of x_964)⟩ (fun t ht hW => ⟨f_963, f_960, (cI_tup hG), Bw.to (hP.sub [3, 4, 11, 5, 6, 7, 8, 9, 10, 0, 1, 2] rfl) (hD.sub [3, 4, 11, 5, 6, 7, 8, 9, 10, 0, 1, 2] (by decide) rfl) (hK.sub [3, 9, 4, 5, 6, 7, 8, 0, 1, 2] rfl) ht hW⟩) hS dX4_throneByUnsure_68 hlocks
      · skip
        have hG := hG.trans (if_neg c_962)
        have gc_962 := ti_nle c_962 rfl rfl
        refine lv_iload_n hx hb dX4_throneByUnsure_24 rfl (lv_at hl 4 rfl) ?_
        refine lv_iload hx hb dX4_throneByUnsure_25 (lv_at hl 0 rfl) ?_
        refine lv_ishr hx hb dX4_throneByUnsure_27 ?_
        refine lv_topi (fun x_965 ex_965 => ?_)
        have hG := hG.trans (lt_eq ex_965)
        have rg_x_965 := fb_rng x_965
        refine lv_iconst (v := 1) hx hb dX4_throneByUnsure_28 (by decide) ?_
        refine lv_iand hx hb dX4_throneByUnsure_29 ?_
        refine lv_topi (fun x_966 ex_966 => ?_)
        have hG := hG.trans (lt_eq ex_966)
        have rg_x_966 := fb_rng x_966
        refine lv_iconst (v := 1) hx hb dX4_throneByUnsure_30 (by decide) ?_
        refine lv_icmp_ne (tgt := 53) hx hb dX4_throneByUnsure_31 (by decide) (fun c_967 => ?_) (fun c_967 => ?_)
        · skip
          have hG := hG.trans (if_neg c_967)
          have gc_967 := ti_ne c_967 rfl kc_1
          obtain ⟨x_968, ex_968⟩ : ∃ z : Int32, z = z_959 + Int32.ofInt 1 := ⟨_, rfl⟩
          have hG := hG.trans (lt_eq ex_968)
          have vx_968 : x_968.toInt = z_959.toInt + 1 := ti_add (y := 1) ex_968 rfl kc_1 (om_4e4fce7e hi0_n_961.1) (om_0ca29412 b_iC_unsures.2 gc_962)
          refine lv_iinc (v := x_968) (lv' := [(4, .int x_968), (0, .ref oL), (1, .ref oC), (2, .ref rW), (3, .int p0)]) hx hb dX4_throneByUnsure_53 hl (k := 0) rfl ex_968.symm (by decide) rfl (fun ls hl => ?_)
          refine lv_goto (tgt := 15) hx hb dX4_throneByUnsure_56 (by decide) ?_
          exact ih_n_961 x_968 f_960 _ _ _  ⟨(om_83b90de5 hi0_n_961.1 vx_968), (om_008057e4 b_iC_unsures.2 gc_962 vx_968)⟩ (ms_lt hm_n_961 (om_b9393183 vx_968) (om_349eab4e b_iC_unsures.2 gc_962)) hG hP hD hS (lv_sub hl [0, 1, 2, 3, 4] rfl)
        · skip
          have hG := hG.trans (if_pos c_967)
          have gc_967 := ti_eq c_967 rfl kc_1
          refine lv_aload_n hx hb dX4_throneByUnsure_34 rfl (lv_at hl 1 rfl) ?_
          refine va_get (D := (dC, dI)) (ci := 4) (v := .ref rL_supposed) (C := RX4) (T := TX4) (N := 2) hx hb hts inX4 hown hK hP 0 rfl rfl 1 (by decide) (hts _ wd_147) (fun _ h9 => h9) rfl dX4_throneByUnsure_35 ?_
          refine lv_aload_n hx hb dX4_throneByUnsure_38 rfl (lv_at hl 2 rfl) ?_
          refine va_get (D := (dC, dI)) (ci := 1) (v := .ref rC_unsureWords) (C := RX1) (T := TX1) (N := 19) hx hb hts inX1 hown hK hP 3 rfl rfl 17 (by decide) (hts _ wd_1174) (fun _ h9 => h9) rfl dX4_throneByUnsure_39 ?_
          refine lv_iload hx hb dX4_throneByUnsure_42 (lv_at hl 0 rfl) ?_
          refine va_iald hx hb hK hP 9 7 rfl rfl (ti_in rfl hi0_n_961.1 (om_2470ff38 b_iC_unsures.2 gc_962)) dX4_throneByUnsure_44 ?_
          refine lv_topi (fun x_969 ex_969 => ?_)
          have hG := hG.trans (lt_eq ex_969)
          have rg_x_969 := fb_rng x_969
          have kx_969 : (fC_unsureWords z_959.toNatClampNeg).toInt = x_969.toInt := by rw [ex_969]
          have ux_969 := a_fC_unsureWords z_959.toNatClampNeg (cl_lt rfl hi0_n_961.1 (om_2470ff38 b_iC_unsures.2 gc_962))
          rw [show fC_unsureWords z_959.toNatClampNeg = x_969 from ex_969.symm] at ux_969
          refine lv_aload_n hx hb dX4_throneByUnsure_45 rfl (lv_at hl 2 rfl) ?_
          refine va_get (D := (dC, dI)) (ci := 1) (v := .ref rC_unsureWorths) (C := RX1) (T := TX1) (N := 19) hx hb hts inX1 hown hK hP 3 rfl rfl 18 (by decide) (hts _ wd_1175) (fun _ h9 => h9) rfl dX4_throneByUnsure_46 ?_
          refine lv_iload hx hb dX4_throneByUnsure_49 (lv_at hl 0 rfl) ?_
          refine va_iald hx hb hK hP 10 8 rfl rfl (ti_in rfl hi0_n_961.1 (om_2470ff38 b_iC_unsures.2 gc_962)) dX4_throneByUnsure_51 ?_
          refine lv_topi (fun x_970 ex_970 => ?_)
          have hG := hG.trans (lt_eq ex_970)
          have rg_x_970 := fb_rng x_970
          have kx_970 : (fC_unsureWorths z_959.toNatClampNeg).toInt = x_970.toInt := by rw [ex_970]
          refine va_iast hx hb hK hP hD hS 2 1 rfl rfl (ti_in rfl ux_969.1 (om_b3735a34 ux_969.2)) dX4_throneByUnsure_52 (fun H locs hP hD hS => ?_)
          obtain ⟨f_972, ef_972⟩ : ∃ g : Nat → Int32, g = upd f_960 x_969.toNatClampNeg x_970 := ⟨_, rfl⟩
          rw [← ef_972] at hP hD
          have hG := hG.trans (lt_eq ef_972)
          obtain ⟨hP, hD⟩ := wl2 (ws' := [(oc4 oL rL_values rL_supposed), (arI rL_values kL_values 18 fL_values), (arI rL_supposed kL_supposed 18 f_972), (oc1 oC iC_nodes iC_words iC_chances iC_unsures iC_slips iC_throneNode iC_saidWorth iC_unit rC_kind rC_parts rC_partNodes rC_weights rC_weightSums rC_toldWorths rC_steps rC_below rC_above rC_unsureWords rC_unsureWorths), (arI rC_kind kC_kind 18 fC_kind), (arI rC_parts kC_parts 18 fC_parts), (arI rC_partNodes kC_partNodes 72 fC_partNodes), (arI rC_weights kC_weights 72 fC_weights), (arI rC_weightSums kC_weightSums 18 fC_weightSums), (arI rC_unsureWords kC_unsureWords 4 fC_unsureWords), (arI rC_unsureWorths kC_unsureWorths 4 fC_unsureWorths), (arI rW kW 18 fW)]) hP hD rfl
          obtain ⟨x_973, ex_973⟩ : ∃ z : Int32, z = z_959 + Int32.ofInt 1 := ⟨_, rfl⟩
          have hG := hG.trans (lt_eq ex_973)
          have vx_973 : x_973.toInt = z_959.toInt + 1 := ti_add (y := 1) ex_973 rfl kc_1 (om_4e4fce7e hi0_n_961.1) (om_0ca29412 b_iC_unsures.2 gc_962)
          refine lv_iinc (v := x_973) (lv' := [(4, .int x_973), (0, .ref oL), (1, .ref oC), (2, .ref rW), (3, .int p0)]) hx hb dX4_throneByUnsure_53 hl (k := 0) rfl ex_973.symm (by decide) rfl (fun ls hl => ?_)
          refine lv_goto (tgt := 15) hx hb dX4_throneByUnsure_56 (by decide) ?_
          exact ih_n_961 x_973 f_972 _ _ _  ⟨(om_83b90de5 hi0_n_961.1 vx_973), (om_008057e4 b_iC_unsures.2 gc_962 vx_973)⟩ (ms_lt hm_n_961 (om_b9393183 vx_973) (om_349eab4e b_iC_unsures.2 gc_962)) hG hP hD hS (lv_sub hl [0, 1, 2, 3, 4] rfl)
  exact key_n_961 (((2147483647 - (0 : Int32).toInt).toNat) + 1) 0 f_958 _ _ _  ⟨(om_b1de7dbe kc_0), (om_daf17c64 kc_0)⟩ (Nat.lt_add_one _) hG hP hD hS hl
set_option maxHeartbeats 4000000 in
set_option maxRecDepth 100000 in
theorem tX4_waysDown (l : Launch) (dC : Nat → ClassId) (dI : Nat → Nat → Nat) (sz : Nat) (oL : Nat) (rL_values : Nat) (fL_values : Nat → Int32) (kL_values : ClassId) (rL_supposed : Nat) (oC : Nat) (iC_nodes : Int32) (iC_words : Int32) (iC_chances : Int32) (iC_unsures : Int32) (iC_slips : Int32) (iC_throneNode : Int32) (iC_saidWorth : Int32) (iC_unit : Int32) (rC_kind : Nat) (fC_kind : Nat → Int32) (kC_kind : ClassId) (rC_parts : Nat) (fC_parts : Nat → Int32) (kC_parts : ClassId) (rC_partNodes : Nat) (fC_partNodes : Nat → Int32) (kC_partNodes : ClassId) (rC_weights : Nat) (rC_weightSums : Nat) (rC_toldWorths : Nat) (rC_steps : Nat) (rC_below : Nat) (rC_above : Nat) (rC_unsureWords : Nat) (rC_unsureWorths : Nat) (b_iC_nodes : 0 ≤ iC_nodes.toInt ∧ iC_nodes.toInt ≤ 18) (b_iC_unsures : 0 ≤ iC_unsures.toInt ∧ iC_unsures.toInt ≤ 4) (b_iC_throneNode : (-1) ≤ iC_throneNode.toInt ∧ iC_throneNode.toInt ≤ 17) (a_fC_parts : ∀ j : Nat, j < 18 → 0 ≤ (fC_parts j).toInt ∧ (fC_parts j).toInt ≤ 4) (a_fC_partNodes : ∀ j : Nat, j < 72 → 0 ≤ (fC_partNodes j).toInt ∧ (fC_partNodes j).toInt ≤ 17)  : Met l yX4_waysDown (Cond.code yX4_waysDown cX4_waysDown 4 (some .int) :: wG) ({ frames := 2, cells := 0, slots := 0, locals := 42 }) (va_Pc [.ref oL, .ref oC] (Pw dC dI sz [(oc4 oL rL_values rL_supposed), (arI rL_values kL_values 18 fL_values), (oc1 oC iC_nodes iC_words iC_chances iC_unsures iC_slips iC_throneNode iC_saidWorth iC_unit rC_kind rC_parts rC_partNodes rC_weights rC_weightSums rC_toldWorths rC_steps rC_below rC_above rC_unsureWords rC_unsureWorths), (arI rC_kind kC_kind 18 fC_kind), (arI rC_parts kC_parts 18 fC_parts), (arI rC_partNodes kC_partNodes 72 fC_partNodes)] [(kL_values, .int), (kC_kind, .int), (kC_parts, .int), (kC_partNodes, .int)])) (va_Qi (fun (r : Int32) (u : Nat) => (True ∧ True) ∧ r = Int32.ofNat u) (fun (u : Nat) (t : State) => ∃ (nfL_values : Nat → Int32), (PX4_waysDown fL_values iC_nodes iC_throneNode fC_kind fC_parts fC_partNodes = (Int32.ofNat u, nfL_values)) ∧ Bw dC dI (va_A [(oc4 oL rL_values rL_supposed), (arI rL_values kL_values 18 fL_values), (oc1 oC iC_nodes iC_words iC_chances iC_unsures iC_slips iC_throneNode iC_saidWorth iC_unit rC_kind rC_parts rC_partNodes rC_weights rC_weightSums rC_toldWorths rC_steps rC_below rC_above rC_unsureWords rC_unsureWorths), (arI rC_kind kC_kind 18 fC_kind), (arI rC_parts kC_parts 18 fC_parts), (arI rC_partNodes kC_partNodes 72 fC_partNodes)] sz) [(oc4 oL rL_values rL_supposed), (arI rL_values kL_values 18 nfL_values), (oc1 oC iC_nodes iC_words iC_chances iC_unsures iC_slips iC_throneNode iC_saidWorth iC_unit rC_kind rC_parts rC_partNodes rC_weights rC_weightSums rC_toldWorths rC_steps rC_below rC_above rC_unsureWords rC_unsureWorths), (arI rC_kind kC_kind 18 fC_kind), (arI rC_parts kC_parts 18 fC_parts), (arI rC_partNodes kC_partNodes 72 fC_partNodes)] [(kL_values, .int), (kC_kind, .int), (kC_parts, .int), (kC_partNodes, .int)] t) (va_A [(oc4 oL rL_values rL_supposed), (arI rL_values kL_values 18 fL_values), (oc1 oC iC_nodes iC_words iC_chances iC_unsures iC_slips iC_throneNode iC_saidWorth iC_unit rC_kind rC_parts rC_partNodes rC_weights rC_weightSums rC_toldWorths rC_steps rC_below rC_above rC_unsureWords rC_unsureWorths), (arI rC_kind kC_kind 18 fC_kind), (arI rC_parts kC_parts 18 fC_parts), (arI rC_partNodes kC_partNodes 72 fC_partNodes)] sz)) 0 0 (va_A [(oc4 oL rL_values rL_supposed), (arI rL_values kL_values 18 fL_values), (oc1 oC iC_nodes iC_words iC_chances iC_unsures iC_slips iC_throneNode iC_saidWorth iC_unit rC_kind rC_parts rC_partNodes rC_weights rC_weightSums rC_toldWorths rC_steps rC_below rC_above rC_unsureWords rC_unsureWorths), (arI rC_kind kC_kind 18 fC_kind), (arI rC_parts kC_parts 18 fC_parts), (arI rC_partNodes kC_partNodes 72 fC_partNodes)] sz) := by
  refine Met.ofW (cc := cX4_waysDown) (maxL := 4) (ret := (some .int)) pnX4 rfl ?_
  intro p e s m args below meth c s₁ B hml hv
  obtain ⟨rfl, hsz, hP, hK, hD0, hE⟩ := hv
  have hx := B.exec
  have hb := B.bytes
  have hr := B.returns
  have hts : ∀ w ∈ wG, w.before ([.ref oL, .ref oC] : List Value).toArray s = true := fun w h => atoms_spec (ws := Cond.code yX4_waysDown cX4_waysDown 4 (some .int) :: wG) B.pre w (List.mem_cons_of_mem _ h)
  have hown : s.vm.findClass RX4 = some m.cls := own_of B.named rfl
  have hlocks := B.notSynchronized
  subst hsz
  have hD := hD0.self (sz := s.heap.size)
  generalize hAe : va_A [(oc4 oL rL_values rL_supposed), (arI rL_values kL_values 18 fL_values), (oc1 oC iC_nodes iC_words iC_chances iC_unsures iC_slips iC_throneNode iC_saidWorth iC_unit rC_kind rC_parts rC_partNodes rC_weights rC_weightSums rC_toldWorths rC_steps rC_below rC_above rC_unsureWords rC_unsureWorths), (arI rC_kind kC_kind 18 fC_kind), (arI rC_parts kC_parts 18 fC_parts), (arI rC_partNodes kC_partNodes 72 fC_partNodes)] s.heap.size = A at hD hE ⊢
  have hA : ∀ q : Nat, s.heap.size ≤ q → A q := fun q h => by rw [← hAe]; exact Or.inr h
  have hS : va_S A s.heap s.heap [] := va_S.rf
  have hl := lv_entry ([.ref oL, .ref oC]) (n := 4) (Nat.le_of_ble_eq_true rfl)
  rw [lg_entry_eq]
  generalize (lg_sl ([.ref oL, .ref oC]) ++ List.replicate (4 - (lg_sl ([.ref oL, .ref oC])).length) Slot.unset).toArray = ls at hl ⊢
  have hl : lv_has ls 4 [(0, .ref oL), (1, .ref oC)] := hl
  have hG := PX4_waysDown_eq fL_values iC_nodes iC_throneNode fC_kind fC_parts fC_partNodes
  refine lv_iconst (v := 0) hx hb dX4_waysDown_0 (by decide) ?_
  refine lv_istore_n (lv' := [(2, .int 0), (0, .ref oL), (1, .ref oC)]) hx hb dX4_waysDown_1 rfl hl (by decide) rfl (fun ls hl => ?_)
  have hl := lv_sub hl (l' := [(2, .int 0), (0, .ref oL), (1, .ref oC)]) [0, 1, 2] rfl
  have key_n_1046 : ∀ (n_1046 : Nat) (z_1044 : Int32) (f_1045 : Nat → Int32) (H : Heap) (locs : List Loc) (ls : Array Slot), (0 ≤ z_1044.toInt ∧ z_1044.toInt ≤ 2147483647) → (2147483647 - z_1044.toInt).toNat < n_1046 → (PX4_waysDown fL_values iC_nodes iC_throneNode fC_kind fC_parts fC_partNodes = HX4_waysDown_0 iC_nodes iC_throneNode fC_kind fC_parts fC_partNodes n_1046 z_1044 f_1045) → va_P (dC, dI) vwCl [(oc4 oL rL_values rL_supposed), (arI rL_values kL_values 18 f_1045), (oc1 oC iC_nodes iC_words iC_chances iC_unsures iC_slips iC_throneNode iC_saidWorth iC_unit rC_kind rC_parts rC_partNodes rC_weights rC_weightSums rC_toldWorths rC_steps rC_below rC_above rC_unsureWords rC_unsureWorths), (arI rC_kind kC_kind 18 fC_kind), (arI rC_parts kC_parts 18 fC_parts), (arI rC_partNodes kC_partNodes 72 fC_partNodes)] H → va_D A [(oc4 oL rL_values rL_supposed), (arI rL_values kL_values 18 f_1045), (oc1 oC iC_nodes iC_words iC_chances iC_unsures iC_slips iC_throneNode iC_saidWorth iC_unit rC_kind rC_parts rC_partNodes rC_weights rC_weightSums rC_toldWorths rC_steps rC_below rC_above rC_unsureWords rC_unsureWorths), (arI rC_kind kC_kind 18 fC_kind), (arI rC_parts kC_parts 18 fC_parts), (arI rC_partNodes kC_partNodes 72 fC_partNodes)] → va_S A s.heap H locs → lv_has ls 4 [(2, .int z_1044), (0, .ref oL), (1, .ref oC)] → W p l e (headSpec (Cond.code yX4_waysDown cX4_waysDown 4 (some .int) :: wG) ({ frames := 2, cells := 0, slots := 0, locals := 42 })).room s m ([.ref oL, .ref oC] : List Value).toArray below meth c H locs 0 0 (MQ below (va_Qi (fun (r : Int32) (u : Nat) => (True ∧ True) ∧ r = Int32.ofNat u) (fun (u : Nat) (t : State) => ∃ (nfL_values : Nat → Int32), (PX4_waysDown fL_values iC_nodes iC_throneNode fC_kind fC_parts fC_partNodes = (Int32.ofNat u, nfL_values)) ∧ Bw dC dI A [(oc4 oL rL_values rL_supposed), (arI rL_values kL_values 18 nfL_values), (oc1 oC iC_nodes iC_words iC_chances iC_unsures iC_slips iC_throneNode iC_saidWorth iC_unit rC_kind rC_parts rC_partNodes rC_weights rC_weightSums rC_toldWorths rC_steps rC_below rC_above rC_unsureWords rC_unsureWorths), (arI rC_kind kC_kind 18 fC_kind), (arI rC_parts kC_parts 18 fC_parts), (arI rC_partNodes kC_partNodes 72 fC_partNodes)] [(kL_values, .int), (kC_kind, .int), (kC_parts, .int), (kC_partNodes, .int)] t) A) ([.ref oL, .ref oC] : List Value).toArray s 0 0 A) (F0 m 2 ls []) := by
    intro n_1046
    induction n_1046 with
    | zero => intro z_1044 f_1045 H locs ls hi0_n_1046 hm; exact absurd hm (Nat.not_lt_zero _)
    | succ n_1046 ih_n_1046 =>
      intro z_1044 f_1045 H locs ls hi0_n_1046 hm_n_1046 hG hP hD hS hl
      have hG := hG.trans (HX4_waysDown_0_eq _ _ _ _ _ _ _ _)
      have rg_z_1044 := fb_rng z_1044
      refine lv_iload_n hx hb dX4_waysDown_2 rfl (lv_at hl 0 rfl) ?_
      refine lv_aload_n hx hb dX4_waysDown_3 rfl (lv_at hl 2 rfl) ?_
      refine va_get (D := (dC, dI)) (ci := 1) (v := .int iC_nodes) (C := RX1) (T := TX1) (N := 19) hx hb hts inX1 hown hK hP 2 rfl rfl 0 (by decide) (hts _ wd_616) (fun _ h9 => h9) rfl dX4_waysDown_4 ?_
      have rg_iC_nodes := fb_rng iC_nodes
      refine lv_icmp_ge (tgt := 78) hx hb dX4_waysDown_7 (by decide) (fun c_1047 => ?_) (fun c_1047 => ?_)
      · skip
        have hG := hG.trans (if_pos c_1047)
        have gc_1047 := ti_le c_1047 rfl rfl
        refine lv_aload_n hx hb dX4_waysDown_78 rfl (lv_at hl 1 rfl) ?_
        refine lv_aload_n hx hb dX4_waysDown_79 rfl (lv_at hl 2 rfl) ?_
        have hMs := ml_of hD [true, true, true, false, false, false] (wc := [(oc4 oL rL_values rL_supposed), (arI rL_values kL_values 18 f_1045), (oc1 oC iC_nodes iC_words iC_chances iC_unsures iC_slips iC_throneNode iC_saidWorth iC_unit rC_kind rC_parts rC_partNodes rC_weights rC_weightSums rC_toldWorths rC_steps rC_below rC_above rC_unsureWords rC_unsureWorths)]) rfl
        have hFc := va_freeM hD hS hA _ hMs
        refine va_calli (va_runV (As := [.ref oC]) (rest := []) ⟨hx, hb, hml, hown, hts⟩ (tX4_throneValue l dC dI _ oL rL_values f_1045 kL_values rL_supposed oC iC_nodes iC_words iC_chances iC_unsures iC_slips iC_throneNode iC_saidWorth iC_unit rC_kind rC_parts rC_partNodes rC_weights rC_weightSums rC_toldWorths rC_steps rC_below rC_above rC_unsureWords rC_unsureWorths b_iC_nodes b_iC_unsures b_iC_throneNode) (cwV 1 hts (wd_V wd_629 wd_630 wd_631 wd_37 (wd_c wd_632)) rfl rfl rfl dv_yX4_throneValue_1 ⟨Nat.le_of_ble_eq_true rfl, Nat.le_of_ble_eq_true rfl⟩) ⟨Pw.fb, recvX4 hK hP (q0 := 0) rfl, fun U hU hW => Pw.to (hP.ms _ hMs) (hD.ms _ hMs) (hK.ms [true, false, false, false] rfl) hE hS hFc hU hW⟩ rfl rfl hl.1 rfl (lv_room (Nat.le_of_ble_eq_true rfl)) dX4_waysDown_80 ⟨Nat.le_of_ble_eq_true rfl, Nat.le_of_ble_eq_true rfl⟩) hS (fun q _ h => hFc q h) hFc (fun r u t H locs ht hvm hw hB hz1 hk1 hS => ?_)
        have hru9 := hw.2
        have hw := hw.1
        obtain ⟨hP, hD⟩ := Bw.goN (ws' := [(oc4 oL rL_values rL_supposed), (arI rL_values kL_values 18 f_1045), (oc1 oC iC_nodes iC_words iC_chances iC_unsures iC_slips iC_throneNode iC_saidWorth iC_unit rC_kind rC_parts rC_partNodes rC_weights rC_weightSums rC_toldWorths rC_steps rC_below rC_above rC_unsureWords rC_unsureWorths), (arI rC_kind kC_kind 18 fC_kind), (arI rC_parts kC_parts 18 fC_parts), (arI rC_partNodes kC_partNodes 72 fC_partNodes)]) hB rfl ht hP hD _ hMs hk1 hFc rfl
        clear hz1 hk1 hvm ht hB hMs
        obtain ⟨x_1048, rfl⟩ : ∃ z, z = r := ⟨_, rfl⟩
        have hG := hG.trans (lt_eq hru9.symm)
        have rg_x_1048 := fb_rng x_1048
        exact wq_i hx hb hr (cI x_1048) ⟨⟨trivial, trivial⟩, (cI_of x_1048)⟩ (fun t ht hW => ⟨f_1045, (cI_tup hG), Bw.to hP hD hK ht hW⟩) hS dX4_waysDown_83 hlocks
      · skip
        have hG := hG.trans (if_neg c_1047)
        have gc_1047 := ti_nle c_1047 rfl rfl
        refine lv_aload_n hx hb dX4_waysDown_10 rfl (lv_at hl 1 rfl) ?_
        refine va_get (D := (dC, dI)) (ci := 4) (v := .ref rL_values) (C := RX4) (T := TX4) (N := 2) hx hb hts inX4 hown hK hP 0 rfl rfl 0 (by decide) (hts _ wd_146) (fun _ h9 => h9) rfl dX4_waysDown_11 ?_
        refine lv_iload_n hx hb dX4_waysDown_14 rfl (lv_at hl 0 rfl) ?_
        refine lv_aload_n hx hb dX4_waysDown_15 rfl (lv_at hl 2 rfl) ?_
        refine va_get (D := (dC, dI)) (ci := 1) (v := .ref rC_kind) (C := RX1) (T := TX1) (N := 19) hx hb hts inX1 hown hK hP 2 rfl rfl 8 (by decide) (hts _ wd_617) (fun _ h9 => h9) rfl dX4_waysDown_16 ?_
        refine lv_iload_n hx hb dX4_waysDown_19 rfl (lv_at hl 0 rfl) ?_
        refine va_iald hx hb hK hP 3 1 rfl rfl (ti_in rfl hi0_n_1046.1 (om_97cd4a7c b_iC_nodes.2 gc_1047)) dX4_waysDown_20 ?_
        refine lv_topi (fun x_1049 ex_1049 => ?_)
        have hG := hG.trans (lt_eq ex_1049)
        have rg_x_1049 := fb_rng x_1049
        have kx_1049 : (fC_kind z_1044.toNatClampNeg).toInt = x_1049.toInt := by rw [ex_1049]
        refine lv_if_ne (tgt := 28) hx hb dX4_waysDown_21 (by decide) (fun c_1050 => ?_) (fun c_1050 => ?_)
        · skip
          have hG := hG.trans (if_neg c_1050)
          have gc_1050 := ti_ne c_1050 rfl kc_0
          refine lv_iconst (v := 0) hx hb dX4_waysDown_28 (by decide) ?_
          refine va_iast hx hb hK hP hD hS 1 0 rfl rfl (ti_in rfl hi0_n_1046.1 (om_97cd4a7c b_iC_nodes.2 gc_1047)) dX4_waysDown_29 (fun H locs hP hD hS => ?_)
          obtain ⟨f_1052, ef_1052⟩ : ∃ g : Nat → Int32, g = upd f_1045 z_1044.toNatClampNeg (0 : Int32) := ⟨_, rfl⟩
          rw [← ef_1052] at hP hD
          have hG := hG.trans (lt_eq ef_1052)
          obtain ⟨hP, hD⟩ := wl2 (ws' := [(oc4 oL rL_values rL_supposed), (arI rL_values kL_values 18 f_1052), (oc1 oC iC_nodes iC_words iC_chances iC_unsures iC_slips iC_throneNode iC_saidWorth iC_unit rC_kind rC_parts rC_partNodes rC_weights rC_weightSums rC_toldWorths rC_steps rC_below rC_above rC_unsureWords rC_unsureWorths), (arI rC_kind kC_kind 18 fC_kind), (arI rC_parts kC_parts 18 fC_parts), (arI rC_partNodes kC_partNodes 72 fC_partNodes)]) hP hD rfl
          refine lv_iconst (v := 0) hx hb dX4_waysDown_30 (by decide) ?_
          refine lv_istore_n (lv' := [(3, .int 0), (2, .int z_1044), (0, .ref oL), (1, .ref oC)]) hx hb dX4_waysDown_31 rfl hl (by decide) rfl (fun ls hl => ?_)
          have hl := lv_sub hl (l' := [(3, .int 0), (2, .int z_1044), (0, .ref oL), (1, .ref oC)]) [0, 1, 2, 3] rfl
          have key_n_1055 : ∀ (n_1055 : Nat) (z_1053 : Int32) (f_1054 : Nat → Int32) (H : Heap) (locs : List Loc) (ls : Array Slot), (0 ≤ z_1053.toInt ∧ z_1053.toInt ≤ 2147483647) → (2147483647 - z_1053.toInt).toNat < n_1055 → (PX4_waysDown fL_values iC_nodes iC_throneNode fC_kind fC_parts fC_partNodes = HX4_waysDown_1 fC_parts fC_partNodes z_1044 (fun (z_1044 : Int32) (f_1045 : Nat → Int32) => HX4_waysDown_0 iC_nodes iC_throneNode fC_kind fC_parts fC_partNodes n_1046 z_1044 f_1045) n_1055 z_1053 f_1054) → va_P (dC, dI) vwCl [(oc4 oL rL_values rL_supposed), (arI rL_values kL_values 18 f_1054), (oc1 oC iC_nodes iC_words iC_chances iC_unsures iC_slips iC_throneNode iC_saidWorth iC_unit rC_kind rC_parts rC_partNodes rC_weights rC_weightSums rC_toldWorths rC_steps rC_below rC_above rC_unsureWords rC_unsureWorths), (arI rC_kind kC_kind 18 fC_kind), (arI rC_parts kC_parts 18 fC_parts), (arI rC_partNodes kC_partNodes 72 fC_partNodes)] H → va_D A [(oc4 oL rL_values rL_supposed), (arI rL_values kL_values 18 f_1054), (oc1 oC iC_nodes iC_words iC_chances iC_unsures iC_slips iC_throneNode iC_saidWorth iC_unit rC_kind rC_parts rC_partNodes rC_weights rC_weightSums rC_toldWorths rC_steps rC_below rC_above rC_unsureWords rC_unsureWorths), (arI rC_kind kC_kind 18 fC_kind), (arI rC_parts kC_parts 18 fC_parts), (arI rC_partNodes kC_partNodes 72 fC_partNodes)] → va_S A s.heap H locs → lv_has ls 4 [(3, .int z_1053), (2, .int z_1044), (0, .ref oL), (1, .ref oC)] → W p l e (headSpec (Cond.code yX4_waysDown cX4_waysDown 4 (some .int) :: wG) ({ frames := 2, cells := 0, slots := 0, locals := 42 })).room s m ([.ref oL, .ref oC] : List Value).toArray below meth c H locs 0 0 (MQ below (va_Qi (fun (r : Int32) (u : Nat) => (True ∧ True) ∧ r = Int32.ofNat u) (fun (u : Nat) (t : State) => ∃ (nfL_values : Nat → Int32), (PX4_waysDown fL_values iC_nodes iC_throneNode fC_kind fC_parts fC_partNodes = (Int32.ofNat u, nfL_values)) ∧ Bw dC dI A [(oc4 oL rL_values rL_supposed), (arI rL_values kL_values 18 nfL_values), (oc1 oC iC_nodes iC_words iC_chances iC_unsures iC_slips iC_throneNode iC_saidWorth iC_unit rC_kind rC_parts rC_partNodes rC_weights rC_weightSums rC_toldWorths rC_steps rC_below rC_above rC_unsureWords rC_unsureWorths), (arI rC_kind kC_kind 18 fC_kind), (arI rC_parts kC_parts 18 fC_parts), (arI rC_partNodes kC_partNodes 72 fC_partNodes)] [(kL_values, .int), (kC_kind, .int), (kC_parts, .int), (kC_partNodes, .int)] t) A) ([.ref oL, .ref oC] : List Value).toArray s 0 0 A) (F0 m 32 ls []) := by
            intro n_1055
            induction n_1055 with
            | zero => intro z_1053 f_1054 H locs ls hi0_n_1055 hm; exact absurd hm (Nat.not_lt_zero _)
            | succ n_1055 ih_n_1055 =>
              intro z_1053 f_1054 H locs ls hi0_n_1055 hm_n_1055 hG hP hD hS hl
              have hG := hG.trans (HX4_waysDown_1_eq _ _ _ _ _ _ _)
              have rg_z_1053 := fb_rng z_1053
              refine lv_iload_n hx hb dX4_waysDown_32 rfl (lv_at hl 0 rfl) ?_
              refine lv_aload_n hx hb dX4_waysDown_33 rfl (lv_at hl 3 rfl) ?_
              refine va_get (D := (dC, dI)) (ci := 1) (v := .ref rC_parts) (C := RX1) (T := TX1) (N := 19) hx hb hts inX1 hown hK hP 2 rfl rfl 9 (by decide) (hts _ wd_623) (fun _ h9 => h9) rfl dX4_waysDown_34 ?_
              refine lv_iload_n hx hb dX4_waysDown_37 rfl (lv_at hl 1 rfl) ?_
              refine va_iald hx hb hK hP 4 2 rfl rfl (ti_in rfl hi0_n_1046.1 (om_97cd4a7c b_iC_nodes.2 gc_1047)) dX4_waysDown_38 ?_
              refine lv_topi (fun x_1056 ex_1056 => ?_)
              have hG := hG.trans (lt_eq ex_1056)
              have rg_x_1056 := fb_rng x_1056
              have kx_1056 : (fC_parts z_1044.toNatClampNeg).toInt = x_1056.toInt := by rw [ex_1056]
              have ux_1056 := a_fC_parts z_1044.toNatClampNeg (cl_lt rfl hi0_n_1046.1 (om_97cd4a7c b_iC_nodes.2 gc_1047))
              rw [show fC_parts z_1044.toNatClampNeg = x_1056 from ex_1056.symm] at ux_1056
              refine lv_icmp_ge (tgt := 72) hx hb dX4_waysDown_39 (by decide) (fun c_1057 => ?_) (fun c_1057 => ?_)
              · skip
                have hG := hG.trans (if_pos c_1057)
                have gc_1057 := ti_le c_1057 rfl rfl
                obtain ⟨x_1058, ex_1058⟩ : ∃ z : Int32, z = z_1044 + Int32.ofInt 1 := ⟨_, rfl⟩
                have hG := hG.trans (lt_eq ex_1058)
                have vx_1058 : x_1058.toInt = z_1044.toInt + 1 := ti_add (y := 1) ex_1058 rfl kc_1 (om_4e4fce7e hi0_n_1046.1) (om_a32d6481 b_iC_nodes.2 gc_1047)
                refine lv_iinc (v := x_1058) (lv' := [(2, .int x_1058), (3, .int z_1053), (0, .ref oL), (1, .ref oC)]) hx hb dX4_waysDown_72 hl (k := 1) rfl ex_1058.symm (by decide) rfl (fun ls hl => ?_)
                refine lv_goto (tgt := 2) hx hb dX4_waysDown_75 (by decide) ?_
                exact ih_n_1046 x_1058 f_1054 _ _ _  ⟨(om_83b90de5 hi0_n_1046.1 vx_1058), (om_ed8867da b_iC_nodes.2 gc_1047 vx_1058)⟩ (ms_lt hm_n_1046 (om_b9393183 vx_1058) (om_1d9fa7fb b_iC_nodes.2 gc_1047)) hG hP hD hS (lv_sub hl [0, 2, 3] rfl)
              · skip
                have hG := hG.trans (if_neg c_1057)
                have gc_1057 := ti_nle c_1057 rfl rfl
                refine lv_aload_n hx hb dX4_waysDown_42 rfl (lv_at hl 2 rfl) ?_
                refine va_get (D := (dC, dI)) (ci := 4) (v := .ref rL_values) (C := RX4) (T := TX4) (N := 2) hx hb hts inX4 hown hK hP 0 rfl rfl 0 (by decide) (hts _ wd_146) (fun _ h9 => h9) rfl dX4_waysDown_43 ?_
                refine lv_iload_n hx hb dX4_waysDown_46 rfl (lv_at hl 1 rfl) ?_
                refine lv_dup2_11 hx hb dX4_waysDown_47 rfl rfl ?_
                refine va_iald hx hb hK hP 1 0 rfl rfl (ti_in rfl hi0_n_1046.1 (om_97cd4a7c b_iC_nodes.2 gc_1047)) dX4_waysDown_48 ?_
                refine lv_topi (fun x_1059 ex_1059 => ?_)
                have hG := hG.trans (lt_eq ex_1059)
                have rg_x_1059 := fb_rng x_1059
                have kx_1059 : (f_1054 z_1044.toNatClampNeg).toInt = x_1059.toInt := by rw [ex_1059]
                refine lv_aload_n hx hb dX4_waysDown_49 rfl (lv_at hl 2 rfl) ?_
                refine va_get (D := (dC, dI)) (ci := 4) (v := .ref rL_values) (C := RX4) (T := TX4) (N := 2) hx hb hts inX4 hown hK hP 0 rfl rfl 0 (by decide) (hts _ wd_146) (fun _ h9 => h9) rfl dX4_waysDown_50 ?_
                refine lv_aload_n hx hb dX4_waysDown_53 rfl (lv_at hl 3 rfl) ?_
                refine va_get (D := (dC, dI)) (ci := 1) (v := .ref rC_partNodes) (C := RX1) (T := TX1) (N := 19) hx hb hts inX1 hown hK hP 2 rfl rfl 10 (by decide) (hts _ wd_624) (fun _ h9 => h9) rfl dX4_waysDown_54 ?_
                refine lv_iload_n hx hb dX4_waysDown_57 rfl (lv_at hl 1 rfl) ?_
                refine lv_iconst (v := 4) hx hb dX4_waysDown_58 (by decide) ?_
                refine lv_imul hx hb dX4_waysDown_59 ?_
                refine lv_topi (fun x_1060 ex_1060 => ?_)
                have hG := hG.trans (lt_eq ex_1060)
                have vx_1060 : x_1060.toInt = 4 * z_1044.toInt := by have q := ti_mul ex_1060 rfl kc_4 (by omega) (by omega); omega
                refine lv_iload_n hx hb dX4_waysDown_60 rfl (lv_at hl 0 rfl) ?_
                refine lv_iadd hx hb dX4_waysDown_61 ?_
                refine lv_topi (fun x_1061 ex_1061 => ?_)
                have hG := hG.trans (lt_eq ex_1061)
                have vx_1061 : x_1061.toInt = 4 * z_1044.toInt + z_1053.toInt := om_5d0caf0f (ti_add ex_1061 vx_1060 rfl (om_056a216f hi0_n_1046.1 hi0_n_1055.1) (om_ba7cfd31 b_iC_nodes.2 gc_1047 ux_1056.2 gc_1057))
                refine va_iald hx hb hK hP 5 3 rfl rfl (ti_in vx_1061 (om_fc2812d4 hi0_n_1046.1 hi0_n_1055.1) (om_e20cec48 b_iC_nodes.2 gc_1047 ux_1056.2 gc_1057)) dX4_waysDown_62 ?_
                refine lv_topi (fun x_1062 ex_1062 => ?_)
                have hG := hG.trans (lt_eq ex_1062)
                have rg_x_1062 := fb_rng x_1062
                have kx_1062 : (fC_partNodes x_1061.toNatClampNeg).toInt = x_1062.toInt := by rw [ex_1062]
                have ux_1062 := a_fC_partNodes x_1061.toNatClampNeg (cl_lt vx_1061 (om_fc2812d4 hi0_n_1046.1 hi0_n_1055.1) (om_e20cec48 b_iC_nodes.2 gc_1047 ux_1056.2 gc_1057))
                rw [show fC_partNodes x_1061.toNatClampNeg = x_1062 from ex_1062.symm] at ux_1062
                refine va_iald hx hb hK hP 1 0 rfl rfl (ti_in rfl ux_1062.1 (om_b3735a34 ux_1062.2)) dX4_waysDown_63 ?_
                refine lv_topi (fun x_1063 ex_1063 => ?_)
                have hG := hG.trans (lt_eq ex_1063)
                have rg_x_1063 := fb_rng x_1063
                have kx_1063 : (f_1054 x_1062.toNatClampNeg).toInt = x_1063.toInt := by rw [ex_1063]
                refine lv_iadd hx hb dX4_waysDown_64 ?_
                refine lv_topi (fun x_1064 ex_1064 => ?_)
                have hG := hG.trans (lt_eq ex_1064)
                have rg_x_1064 := fb_rng x_1064
                refine va_iast hx hb hK hP hD hS 1 0 rfl rfl (ti_in rfl hi0_n_1046.1 (om_97cd4a7c b_iC_nodes.2 gc_1047)) dX4_waysDown_65 (fun H locs hP hD hS => ?_)
                obtain ⟨f_1066, ef_1066⟩ : ∃ g : Nat → Int32, g = upd f_1054 z_1044.toNatClampNeg x_1064 := ⟨_, rfl⟩
                rw [← ef_1066] at hP hD
                have hG := hG.trans (lt_eq ef_1066)
                obtain ⟨hP, hD⟩ := wl2 (ws' := [(oc4 oL rL_values rL_supposed), (arI rL_values kL_values 18 f_1066), (oc1 oC iC_nodes iC_words iC_chances iC_unsures iC_slips iC_throneNode iC_saidWorth iC_unit rC_kind rC_parts rC_partNodes rC_weights rC_weightSums rC_toldWorths rC_steps rC_below rC_above rC_unsureWords rC_unsureWorths), (arI rC_kind kC_kind 18 fC_kind), (arI rC_parts kC_parts 18 fC_parts), (arI rC_partNodes kC_partNodes 72 fC_partNodes)]) hP hD rfl
                obtain ⟨x_1067, ex_1067⟩ : ∃ z : Int32, z = z_1053 + Int32.ofInt 1 := ⟨_, rfl⟩
                have hG := hG.trans (lt_eq ex_1067)
                have vx_1067 : x_1067.toInt = z_1053.toInt + 1 := ti_add (y := 1) ex_1067 rfl kc_1 (om_4e4fce7e hi0_n_1055.1) (om_0ca29412 ux_1056.2 gc_1057)
                refine lv_iinc (v := x_1067) (lv' := [(3, .int x_1067), (2, .int z_1044), (0, .ref oL), (1, .ref oC)]) hx hb dX4_waysDown_66 hl (k := 0) rfl ex_1067.symm (by decide) rfl (fun ls hl => ?_)
                refine lv_goto (tgt := 32) hx hb dX4_waysDown_69 (by decide) ?_
                exact ih_n_1055 x_1067 f_1066 _ _ _  ⟨(om_83b90de5 hi0_n_1055.1 vx_1067), (om_008057e4 ux_1056.2 gc_1057 vx_1067)⟩ (ms_lt hm_n_1055 (om_b9393183 vx_1067) (om_349eab4e ux_1056.2 gc_1057)) hG hP hD hS (lv_sub hl [0, 1, 2, 3] rfl)
          exact key_n_1055 (((2147483647 - (0 : Int32).toInt).toNat) + 1) 0 f_1052 _ _ _  ⟨(om_b1de7dbe kc_0), (om_daf17c64 kc_0)⟩ (Nat.lt_add_one _) hG hP hD hS hl
        · skip
          have hG := hG.trans (if_pos c_1050)
          have gc_1050 := ti_eq c_1050 rfl kc_0
          refine lv_iconst (v := 1) hx hb dX4_waysDown_24 (by decide) ?_
          refine lv_goto (tgt := 29) hx hb dX4_waysDown_25 (by decide) ?_
          refine va_iast hx hb hK hP hD hS 1 0 rfl rfl (ti_in rfl hi0_n_1046.1 (om_97cd4a7c b_iC_nodes.2 gc_1047)) dX4_waysDown_29 (fun H locs hP hD hS => ?_)
          obtain ⟨f_1069, ef_1069⟩ : ∃ g : Nat → Int32, g = upd f_1045 z_1044.toNatClampNeg (1 : Int32) := ⟨_, rfl⟩
          rw [← ef_1069] at hP hD
          have hG := hG.trans (lt_eq ef_1069)
          obtain ⟨hP, hD⟩ := wl2 (ws' := [(oc4 oL rL_values rL_supposed), (arI rL_values kL_values 18 f_1069), (oc1 oC iC_nodes iC_words iC_chances iC_unsures iC_slips iC_throneNode iC_saidWorth iC_unit rC_kind rC_parts rC_partNodes rC_weights rC_weightSums rC_toldWorths rC_steps rC_below rC_above rC_unsureWords rC_unsureWorths), (arI rC_kind kC_kind 18 fC_kind), (arI rC_parts kC_parts 18 fC_parts), (arI rC_partNodes kC_partNodes 72 fC_partNodes)]) hP hD rfl
          refine lv_iconst (v := 0) hx hb dX4_waysDown_30 (by decide) ?_
          refine lv_istore_n (lv' := [(3, .int 0), (2, .int z_1044), (0, .ref oL), (1, .ref oC)]) hx hb dX4_waysDown_31 rfl hl (by decide) rfl (fun ls hl => ?_)
          have hl := lv_sub hl (l' := [(3, .int 0), (2, .int z_1044), (0, .ref oL), (1, .ref oC)]) [0, 1, 2, 3] rfl
          have key_n_1072 : ∀ (n_1072 : Nat) (z_1070 : Int32) (f_1071 : Nat → Int32) (H : Heap) (locs : List Loc) (ls : Array Slot), (0 ≤ z_1070.toInt ∧ z_1070.toInt ≤ 2147483647) → (2147483647 - z_1070.toInt).toNat < n_1072 → (PX4_waysDown fL_values iC_nodes iC_throneNode fC_kind fC_parts fC_partNodes = HX4_waysDown_1 fC_parts fC_partNodes z_1044 (fun (z_1044 : Int32) (f_1045 : Nat → Int32) => HX4_waysDown_0 iC_nodes iC_throneNode fC_kind fC_parts fC_partNodes n_1046 z_1044 f_1045) n_1072 z_1070 f_1071) → va_P (dC, dI) vwCl [(oc4 oL rL_values rL_supposed), (arI rL_values kL_values 18 f_1071), (oc1 oC iC_nodes iC_words iC_chances iC_unsures iC_slips iC_throneNode iC_saidWorth iC_unit rC_kind rC_parts rC_partNodes rC_weights rC_weightSums rC_toldWorths rC_steps rC_below rC_above rC_unsureWords rC_unsureWorths), (arI rC_kind kC_kind 18 fC_kind), (arI rC_parts kC_parts 18 fC_parts), (arI rC_partNodes kC_partNodes 72 fC_partNodes)] H → va_D A [(oc4 oL rL_values rL_supposed), (arI rL_values kL_values 18 f_1071), (oc1 oC iC_nodes iC_words iC_chances iC_unsures iC_slips iC_throneNode iC_saidWorth iC_unit rC_kind rC_parts rC_partNodes rC_weights rC_weightSums rC_toldWorths rC_steps rC_below rC_above rC_unsureWords rC_unsureWorths), (arI rC_kind kC_kind 18 fC_kind), (arI rC_parts kC_parts 18 fC_parts), (arI rC_partNodes kC_partNodes 72 fC_partNodes)] → va_S A s.heap H locs → lv_has ls 4 [(3, .int z_1070), (2, .int z_1044), (0, .ref oL), (1, .ref oC)] → W p l e (headSpec (Cond.code yX4_waysDown cX4_waysDown 4 (some .int) :: wG) ({ frames := 2, cells := 0, slots := 0, locals := 42 })).room s m ([.ref oL, .ref oC] : List Value).toArray below meth c H locs 0 0 (MQ below (va_Qi (fun (r : Int32) (u : Nat) => (True ∧ True) ∧ r = Int32.ofNat u) (fun (u : Nat) (t : State) => ∃ (nfL_values : Nat → Int32), (PX4_waysDown fL_values iC_nodes iC_throneNode fC_kind fC_parts fC_partNodes = (Int32.ofNat u, nfL_values)) ∧ Bw dC dI A [(oc4 oL rL_values rL_supposed), (arI rL_values kL_values 18 nfL_values), (oc1 oC iC_nodes iC_words iC_chances iC_unsures iC_slips iC_throneNode iC_saidWorth iC_unit rC_kind rC_parts rC_partNodes rC_weights rC_weightSums rC_toldWorths rC_steps rC_below rC_above rC_unsureWords rC_unsureWorths), (arI rC_kind kC_kind 18 fC_kind), (arI rC_parts kC_parts 18 fC_parts), (arI rC_partNodes kC_partNodes 72 fC_partNodes)] [(kL_values, .int), (kC_kind, .int), (kC_parts, .int), (kC_partNodes, .int)] t) A) ([.ref oL, .ref oC] : List Value).toArray s 0 0 A) (F0 m 32 ls []) := by
            intro n_1072
            induction n_1072 with
            | zero => intro z_1070 f_1071 H locs ls hi0_n_1072 hm; exact absurd hm (Nat.not_lt_zero _)
            | succ n_1072 ih_n_1072 =>
              intro z_1070 f_1071 H locs ls hi0_n_1072 hm_n_1072 hG hP hD hS hl
              have hG := hG.trans (HX4_waysDown_1_eq _ _ _ _ _ _ _)
              have rg_z_1070 := fb_rng z_1070
              refine lv_iload_n hx hb dX4_waysDown_32 rfl (lv_at hl 0 rfl) ?_
              refine lv_aload_n hx hb dX4_waysDown_33 rfl (lv_at hl 3 rfl) ?_
              refine va_get (D := (dC, dI)) (ci := 1) (v := .ref rC_parts) (C := RX1) (T := TX1) (N := 19) hx hb hts inX1 hown hK hP 2 rfl rfl 9 (by decide) (hts _ wd_623) (fun _ h9 => h9) rfl dX4_waysDown_34 ?_
              refine lv_iload_n hx hb dX4_waysDown_37 rfl (lv_at hl 1 rfl) ?_
              refine va_iald hx hb hK hP 4 2 rfl rfl (ti_in rfl hi0_n_1046.1 (om_97cd4a7c b_iC_nodes.2 gc_1047)) dX4_waysDown_38 ?_
              refine lv_topi (fun x_1073 ex_1073 => ?_)
              have hG := hG.trans (lt_eq ex_1073)
              have rg_x_1073 := fb_rng x_1073
              have kx_1073 : (fC_parts z_1044.toNatClampNeg).toInt = x_1073.toInt := by rw [ex_1073]
              have ux_1073 := a_fC_parts z_1044.toNatClampNeg (cl_lt rfl hi0_n_1046.1 (om_97cd4a7c b_iC_nodes.2 gc_1047))
              rw [show fC_parts z_1044.toNatClampNeg = x_1073 from ex_1073.symm] at ux_1073
              refine lv_icmp_ge (tgt := 72) hx hb dX4_waysDown_39 (by decide) (fun c_1074 => ?_) (fun c_1074 => ?_)
              · skip
                have hG := hG.trans (if_pos c_1074)
                have gc_1074 := ti_le c_1074 rfl rfl
                obtain ⟨x_1075, ex_1075⟩ : ∃ z : Int32, z = z_1044 + Int32.ofInt 1 := ⟨_, rfl⟩
                have hG := hG.trans (lt_eq ex_1075)
                have vx_1075 : x_1075.toInt = z_1044.toInt + 1 := ti_add (y := 1) ex_1075 rfl kc_1 (om_4e4fce7e hi0_n_1046.1) (om_a32d6481 b_iC_nodes.2 gc_1047)
                refine lv_iinc (v := x_1075) (lv' := [(2, .int x_1075), (3, .int z_1070), (0, .ref oL), (1, .ref oC)]) hx hb dX4_waysDown_72 hl (k := 1) rfl ex_1075.symm (by decide) rfl (fun ls hl => ?_)
                refine lv_goto (tgt := 2) hx hb dX4_waysDown_75 (by decide) ?_
                exact ih_n_1046 x_1075 f_1071 _ _ _  ⟨(om_83b90de5 hi0_n_1046.1 vx_1075), (om_ed8867da b_iC_nodes.2 gc_1047 vx_1075)⟩ (ms_lt hm_n_1046 (om_b9393183 vx_1075) (om_1d9fa7fb b_iC_nodes.2 gc_1047)) hG hP hD hS (lv_sub hl [0, 2, 3] rfl)
              · skip
                have hG := hG.trans (if_neg c_1074)
                have gc_1074 := ti_nle c_1074 rfl rfl
                refine lv_aload_n hx hb dX4_waysDown_42 rfl (lv_at hl 2 rfl) ?_
                refine va_get (D := (dC, dI)) (ci := 4) (v := .ref rL_values) (C := RX4) (T := TX4) (N := 2) hx hb hts inX4 hown hK hP 0 rfl rfl 0 (by decide) (hts _ wd_146) (fun _ h9 => h9) rfl dX4_waysDown_43 ?_
                refine lv_iload_n hx hb dX4_waysDown_46 rfl (lv_at hl 1 rfl) ?_
                refine lv_dup2_11 hx hb dX4_waysDown_47 rfl rfl ?_
                refine va_iald hx hb hK hP 1 0 rfl rfl (ti_in rfl hi0_n_1046.1 (om_97cd4a7c b_iC_nodes.2 gc_1047)) dX4_waysDown_48 ?_
                refine lv_topi (fun x_1076 ex_1076 => ?_)
                have hG := hG.trans (lt_eq ex_1076)
                have rg_x_1076 := fb_rng x_1076
                have kx_1076 : (f_1071 z_1044.toNatClampNeg).toInt = x_1076.toInt := by rw [ex_1076]
                refine lv_aload_n hx hb dX4_waysDown_49 rfl (lv_at hl 2 rfl) ?_
                refine va_get (D := (dC, dI)) (ci := 4) (v := .ref rL_values) (C := RX4) (T := TX4) (N := 2) hx hb hts inX4 hown hK hP 0 rfl rfl 0 (by decide) (hts _ wd_146) (fun _ h9 => h9) rfl dX4_waysDown_50 ?_
                refine lv_aload_n hx hb dX4_waysDown_53 rfl (lv_at hl 3 rfl) ?_
                refine va_get (D := (dC, dI)) (ci := 1) (v := .ref rC_partNodes) (C := RX1) (T := TX1) (N := 19) hx hb hts inX1 hown hK hP 2 rfl rfl 10 (by decide) (hts _ wd_624) (fun _ h9 => h9) rfl dX4_waysDown_54 ?_
                refine lv_iload_n hx hb dX4_waysDown_57 rfl (lv_at hl 1 rfl) ?_
                refine lv_iconst (v := 4) hx hb dX4_waysDown_58 (by decide) ?_
                refine lv_imul hx hb dX4_waysDown_59 ?_
                refine lv_topi (fun x_1077 ex_1077 => ?_)
                have hG := hG.trans (lt_eq ex_1077)
                have vx_1077 : x_1077.toInt = 4 * z_1044.toInt := by have q := ti_mul ex_1077 rfl kc_4 (by omega) (by omega); omega
                refine lv_iload_n hx hb dX4_waysDown_60 rfl (lv_at hl 0 rfl) ?_
                refine lv_iadd hx hb dX4_waysDown_61 ?_
                refine lv_topi (fun x_1078 ex_1078 => ?_)
                have hG := hG.trans (lt_eq ex_1078)
                have vx_1078 : x_1078.toInt = 4 * z_1044.toInt + z_1070.toInt := om_5d0caf0f (ti_add ex_1078 vx_1077 rfl (om_056a216f hi0_n_1046.1 hi0_n_1072.1) (om_ba7cfd31 b_iC_nodes.2 gc_1047 ux_1073.2 gc_1074))
                refine va_iald hx hb hK hP 5 3 rfl rfl (ti_in vx_1078 (om_fc2812d4 hi0_n_1046.1 hi0_n_1072.1) (om_e20cec48 b_iC_nodes.2 gc_1047 ux_1073.2 gc_1074)) dX4_waysDown_62 ?_
                refine lv_topi (fun x_1079 ex_1079 => ?_)
                have hG := hG.trans (lt_eq ex_1079)
                have rg_x_1079 := fb_rng x_1079
                have kx_1079 : (fC_partNodes x_1078.toNatClampNeg).toInt = x_1079.toInt := by rw [ex_1079]
                have ux_1079 := a_fC_partNodes x_1078.toNatClampNeg (cl_lt vx_1078 (om_fc2812d4 hi0_n_1046.1 hi0_n_1072.1) (om_e20cec48 b_iC_nodes.2 gc_1047 ux_1073.2 gc_1074))
                rw [show fC_partNodes x_1078.toNatClampNeg = x_1079 from ex_1079.symm] at ux_1079
                refine va_iald hx hb hK hP 1 0 rfl rfl (ti_in rfl ux_1079.1 (om_b3735a34 ux_1079.2)) dX4_waysDown_63 ?_
                refine lv_topi (fun x_1080 ex_1080 => ?_)
                have hG := hG.trans (lt_eq ex_1080)
                have rg_x_1080 := fb_rng x_1080
                have kx_1080 : (f_1071 x_1079.toNatClampNeg).toInt = x_1080.toInt := by rw [ex_1080]
                refine lv_iadd hx hb dX4_waysDown_64 ?_
                refine lv_topi (fun x_1081 ex_1081 => ?_)
                have hG := hG.trans (lt_eq ex_1081)
                have rg_x_1081 := fb_rng x_1081
                refine va_iast hx hb hK hP hD hS 1 0 rfl rfl (ti_in rfl hi0_n_1046.1 (om_97cd4a7c b_iC_nodes.2 gc_1047)) dX4_waysDown_65 (fun H locs hP hD hS => ?_)
                obtain ⟨f_1083, ef_1083⟩ : ∃ g : Nat → Int32, g = upd f_1071 z_1044.toNatClampNeg x_1081 := ⟨_, rfl⟩
                rw [← ef_1083] at hP hD
                have hG := hG.trans (lt_eq ef_1083)
                obtain ⟨hP, hD⟩ := wl2 (ws' := [(oc4 oL rL_values rL_supposed), (arI rL_values kL_values 18 f_1083), (oc1 oC iC_nodes iC_words iC_chances iC_unsures iC_slips iC_throneNode iC_saidWorth iC_unit rC_kind rC_parts rC_partNodes rC_weights rC_weightSums rC_toldWorths rC_steps rC_below rC_above rC_unsureWords rC_unsureWorths), (arI rC_kind kC_kind 18 fC_kind), (arI rC_parts kC_parts 18 fC_parts), (arI rC_partNodes kC_partNodes 72 fC_partNodes)]) hP hD rfl
                obtain ⟨x_1084, ex_1084⟩ : ∃ z : Int32, z = z_1070 + Int32.ofInt 1 := ⟨_, rfl⟩
                have hG := hG.trans (lt_eq ex_1084)
                have vx_1084 : x_1084.toInt = z_1070.toInt + 1 := ti_add (y := 1) ex_1084 rfl kc_1 (om_4e4fce7e hi0_n_1072.1) (om_0ca29412 ux_1073.2 gc_1074)
                refine lv_iinc (v := x_1084) (lv' := [(3, .int x_1084), (2, .int z_1044), (0, .ref oL), (1, .ref oC)]) hx hb dX4_waysDown_66 hl (k := 0) rfl ex_1084.symm (by decide) rfl (fun ls hl => ?_)
                refine lv_goto (tgt := 32) hx hb dX4_waysDown_69 (by decide) ?_
                exact ih_n_1072 x_1084 f_1083 _ _ _  ⟨(om_83b90de5 hi0_n_1072.1 vx_1084), (om_008057e4 ux_1073.2 gc_1074 vx_1084)⟩ (ms_lt hm_n_1072 (om_b9393183 vx_1084) (om_349eab4e ux_1073.2 gc_1074)) hG hP hD hS (lv_sub hl [0, 1, 2, 3] rfl)
          exact key_n_1072 (((2147483647 - (0 : Int32).toInt).toNat) + 1) 0 f_1069 _ _ _  ⟨(om_b1de7dbe kc_0), (om_daf17c64 kc_0)⟩ (Nat.lt_add_one _) hG hP hD hS hl
  exact key_n_1046 (((2147483647 - (0 : Int32).toInt).toNat) + 1) 0 fL_values _ _ _  ⟨(om_b1de7dbe kc_0), (om_daf17c64 kc_0)⟩ (Nat.lt_add_one _) hG hP hD hS hl
set_option maxHeartbeats 4000000 in
set_option maxRecDepth 100000 in
theorem tX4_weighNightNone (l : Launch) (dC : Nat → ClassId) (dI : Nat → Nat → Nat) (sz : Nat) (oL : Nat) (rL_values : Nat) (fL_values : Nat → Int32) (kL_values : ClassId) (rL_supposed : Nat) (oC : Nat) (iC_nodes : Int32) (iC_words : Int32) (iC_chances : Int32) (iC_unsures : Int32) (iC_slips : Int32) (iC_throneNode : Int32) (iC_saidWorth : Int32) (iC_unit : Int32) (rC_kind : Nat) (fC_kind : Nat → Int32) (kC_kind : ClassId) (rC_parts : Nat) (rC_partNodes : Nat) (rC_weights : Nat) (rC_weightSums : Nat) (rC_toldWorths : Nat) (rC_steps : Nat) (rC_below : Nat) (rC_above : Nat) (rC_unsureWords : Nat) (rC_unsureWorths : Nat) (rW : Nat) (fW : Nat → Int32) (kW : ClassId) (b_iC_nodes : 0 ≤ iC_nodes.toInt ∧ iC_nodes.toInt ≤ 18) (b_iC_unsures : 0 ≤ iC_unsures.toInt ∧ iC_unsures.toInt ≤ 4) (b_iC_throneNode : (-1) ≤ iC_throneNode.toInt ∧ iC_throneNode.toInt ≤ 17)  : Met l yX4_weighNightNone (Cond.code yX4_weighNightNone cX4_weighNightNone 4 none :: wG) ({ frames := 0, cells := 0, slots := 0, locals := 0 }) (va_Pc [.ref oL, .ref oC, .ref rW] (Pw dC dI sz [(oc4 oL rL_values rL_supposed), (arI rL_values kL_values 18 fL_values), (oc1 oC iC_nodes iC_words iC_chances iC_unsures iC_slips iC_throneNode iC_saidWorth iC_unit rC_kind rC_parts rC_partNodes rC_weights rC_weightSums rC_toldWorths rC_steps rC_below rC_above rC_unsureWords rC_unsureWorths), (arI rC_kind kC_kind 18 fC_kind), (arI rW kW 18 fW)] [(kL_values, .int), (kC_kind, .int), (kW, .int)])) (va_Qv (fun (_ : Nat) => True) (fun (_ : Nat) (t : State) => ∃ (nfL_values : Nat → Int32), (PX4_weighNightNone fL_values iC_nodes iC_unit fC_kind fW = nfL_values) ∧ Bw dC dI (va_A [(oc4 oL rL_values rL_supposed), (arI rL_values kL_values 18 fL_values), (oc1 oC iC_nodes iC_words iC_chances iC_unsures iC_slips iC_throneNode iC_saidWorth iC_unit rC_kind rC_parts rC_partNodes rC_weights rC_weightSums rC_toldWorths rC_steps rC_below rC_above rC_unsureWords rC_unsureWorths), (arI rC_kind kC_kind 18 fC_kind), (arI rW kW 18 fW)] sz) [(oc4 oL rL_values rL_supposed), (arI rL_values kL_values 18 nfL_values), (oc1 oC iC_nodes iC_words iC_chances iC_unsures iC_slips iC_throneNode iC_saidWorth iC_unit rC_kind rC_parts rC_partNodes rC_weights rC_weightSums rC_toldWorths rC_steps rC_below rC_above rC_unsureWords rC_unsureWorths), (arI rC_kind kC_kind 18 fC_kind), (arI rW kW 18 fW)] [(kL_values, .int), (kC_kind, .int), (kW, .int)] t) (va_A [(oc4 oL rL_values rL_supposed), (arI rL_values kL_values 18 fL_values), (oc1 oC iC_nodes iC_words iC_chances iC_unsures iC_slips iC_throneNode iC_saidWorth iC_unit rC_kind rC_parts rC_partNodes rC_weights rC_weightSums rC_toldWorths rC_steps rC_below rC_above rC_unsureWords rC_unsureWorths), (arI rC_kind kC_kind 18 fC_kind), (arI rW kW 18 fW)] sz)) 0 0 (va_A [(oc4 oL rL_values rL_supposed), (arI rL_values kL_values 18 fL_values), (oc1 oC iC_nodes iC_words iC_chances iC_unsures iC_slips iC_throneNode iC_saidWorth iC_unit rC_kind rC_parts rC_partNodes rC_weights rC_weightSums rC_toldWorths rC_steps rC_below rC_above rC_unsureWords rC_unsureWorths), (arI rC_kind kC_kind 18 fC_kind), (arI rW kW 18 fW)] sz) := by
  refine Met.ofW (cc := cX4_weighNightNone) (maxL := 4) (ret := none) pnX4 rfl ?_
  intro p e s m args below meth c s₁ B hml hv
  obtain ⟨rfl, hsz, hP, hK, hD0, hE⟩ := hv
  have hx := B.exec
  have hb := B.bytes
  have hr := B.returns
  have hts : ∀ w ∈ wG, w.before ([.ref oL, .ref oC, .ref rW] : List Value).toArray s = true := fun w h => atoms_spec (ws := Cond.code yX4_weighNightNone cX4_weighNightNone 4 none :: wG) B.pre w (List.mem_cons_of_mem _ h)
  have hown : s.vm.findClass RX4 = some m.cls := own_of B.named rfl
  have hlocks := B.notSynchronized
  subst hsz
  have hD := hD0.self (sz := s.heap.size)
  generalize hAe : va_A [(oc4 oL rL_values rL_supposed), (arI rL_values kL_values 18 fL_values), (oc1 oC iC_nodes iC_words iC_chances iC_unsures iC_slips iC_throneNode iC_saidWorth iC_unit rC_kind rC_parts rC_partNodes rC_weights rC_weightSums rC_toldWorths rC_steps rC_below rC_above rC_unsureWords rC_unsureWorths), (arI rC_kind kC_kind 18 fC_kind), (arI rW kW 18 fW)] s.heap.size = A at hD hE ⊢
  have hA : ∀ q : Nat, s.heap.size ≤ q → A q := fun q h => by rw [← hAe]; exact Or.inr h
  have hS : va_S A s.heap s.heap [] := va_S.rf
  have hl := lv_entry ([.ref oL, .ref oC, .ref rW]) (n := 4) (Nat.le_of_ble_eq_true rfl)
  rw [lg_entry_eq]
  generalize (lg_sl ([.ref oL, .ref oC, .ref rW]) ++ List.replicate (4 - (lg_sl ([.ref oL, .ref oC, .ref rW])).length) Slot.unset).toArray = ls at hl ⊢
  have hl : lv_has ls 4 [(0, .ref oL), (1, .ref oC), (2, .ref rW)] := hl
  have hG := PX4_weighNightNone_eq fL_values iC_nodes iC_unit fC_kind fW
  refine lv_iconst (v := 0) hx hb dX4_weighNightNone_0 (by decide) ?_
  refine lv_istore_n (lv' := [(3, .int 0), (0, .ref oL), (1, .ref oC), (2, .ref rW)]) hx hb dX4_weighNightNone_1 rfl hl (by decide) rfl (fun ls hl => ?_)
  have hl := lv_sub hl (l' := [(3, .int 0), (0, .ref oL), (1, .ref oC), (2, .ref rW)]) [0, 1, 2, 3] rfl
  have key_n_1108 : ∀ (n_1108 : Nat) (z_1106 : Int32) (f_1107 : Nat → Int32) (H : Heap) (locs : List Loc) (ls : Array Slot), (0 ≤ z_1106.toInt ∧ z_1106.toInt ≤ 2147483647) → (2147483647 - z_1106.toInt).toNat < n_1108 → (PX4_weighNightNone fL_values iC_nodes iC_unit fC_kind fW = HX4_weighNightNone_0 iC_nodes iC_unit fC_kind fW n_1108 z_1106 f_1107) → va_P (dC, dI) vwCl [(oc4 oL rL_values rL_supposed), (arI rL_values kL_values 18 f_1107), (oc1 oC iC_nodes iC_words iC_chances iC_unsures iC_slips iC_throneNode iC_saidWorth iC_unit rC_kind rC_parts rC_partNodes rC_weights rC_weightSums rC_toldWorths rC_steps rC_below rC_above rC_unsureWords rC_unsureWorths), (arI rC_kind kC_kind 18 fC_kind), (arI rW kW 18 fW)] H → va_D A [(oc4 oL rL_values rL_supposed), (arI rL_values kL_values 18 f_1107), (oc1 oC iC_nodes iC_words iC_chances iC_unsures iC_slips iC_throneNode iC_saidWorth iC_unit rC_kind rC_parts rC_partNodes rC_weights rC_weightSums rC_toldWorths rC_steps rC_below rC_above rC_unsureWords rC_unsureWorths), (arI rC_kind kC_kind 18 fC_kind), (arI rW kW 18 fW)] → va_S A s.heap H locs → lv_has ls 4 [(3, .int z_1106), (0, .ref oL), (1, .ref oC), (2, .ref rW)] → W p l e (headSpec (Cond.code yX4_weighNightNone cX4_weighNightNone 4 none :: wG) ({ frames := 0, cells := 0, slots := 0, locals := 0 })).room s m ([.ref oL, .ref oC, .ref rW] : List Value).toArray below meth c H locs 0 0 (MQ below (va_Qv (fun (_ : Nat) => True) (fun (_ : Nat) (t : State) => ∃ (nfL_values : Nat → Int32), (PX4_weighNightNone fL_values iC_nodes iC_unit fC_kind fW = nfL_values) ∧ Bw dC dI A [(oc4 oL rL_values rL_supposed), (arI rL_values kL_values 18 nfL_values), (oc1 oC iC_nodes iC_words iC_chances iC_unsures iC_slips iC_throneNode iC_saidWorth iC_unit rC_kind rC_parts rC_partNodes rC_weights rC_weightSums rC_toldWorths rC_steps rC_below rC_above rC_unsureWords rC_unsureWorths), (arI rC_kind kC_kind 18 fC_kind), (arI rW kW 18 fW)] [(kL_values, .int), (kC_kind, .int), (kW, .int)] t) A) ([.ref oL, .ref oC, .ref rW] : List Value).toArray s 0 0 A) (F0 m 2 ls []) := by
    intro n_1108
    induction n_1108 with
    | zero => intro z_1106 f_1107 H locs ls hi0_n_1108 hm; exact absurd hm (Nat.not_lt_zero _)
    | succ n_1108 ih_n_1108 =>
      intro z_1106 f_1107 H locs ls hi0_n_1108 hm_n_1108 hG hP hD hS hl
      have hG := hG.trans (HX4_weighNightNone_0_eq _ _ _ _ _ _ _)
      have rg_z_1106 := fb_rng z_1106
      refine lv_iload_n hx hb dX4_weighNightNone_2 rfl (lv_at hl 0 rfl) ?_
      refine lv_aload_n hx hb dX4_weighNightNone_3 rfl (lv_at hl 2 rfl) ?_
      refine va_get (D := (dC, dI)) (ci := 1) (v := .int iC_nodes) (C := RX1) (T := TX1) (N := 19) hx hb hts inX1 hown hK hP 2 rfl rfl 0 (by decide) (hts _ wd_616) (fun _ h9 => h9) rfl dX4_weighNightNone_4 ?_
      have rg_iC_nodes := fb_rng iC_nodes
      refine lv_icmp_ge (tgt := 44) hx hb dX4_weighNightNone_7 (by decide) (fun c_1109 => ?_) (fun c_1109 => ?_)
      · skip
        have hG := hG.trans (if_pos c_1109)
        have gc_1109 := ti_le c_1109 rfl rfl
        exact wq_v hx hb hr 0 trivial (fun t ht hW => ⟨f_1107, hG, Bw.to hP hD hK ht hW⟩) hS dX4_weighNightNone_44 hlocks
      · skip
        have hG := hG.trans (if_neg c_1109)
        have gc_1109 := ti_nle c_1109 rfl rfl
        refine lv_aload_n hx hb dX4_weighNightNone_10 rfl (lv_at hl 1 rfl) ?_
        refine va_get (D := (dC, dI)) (ci := 4) (v := .ref rL_values) (C := RX4) (T := TX4) (N := 2) hx hb hts inX4 hown hK hP 0 rfl rfl 0 (by decide) (hts _ wd_146) (fun _ h9 => h9) rfl dX4_weighNightNone_11 ?_
        refine lv_iload_n hx hb dX4_weighNightNone_14 rfl (lv_at hl 0 rfl) ?_
        refine lv_aload_n hx hb dX4_weighNightNone_15 rfl (lv_at hl 2 rfl) ?_
        refine va_get (D := (dC, dI)) (ci := 1) (v := .ref rC_kind) (C := RX1) (T := TX1) (N := 19) hx hb hts inX1 hown hK hP 2 rfl rfl 8 (by decide) (hts _ wd_617) (fun _ h9 => h9) rfl dX4_weighNightNone_16 ?_
        refine lv_iload_n hx hb dX4_weighNightNone_19 rfl (lv_at hl 0 rfl) ?_
        refine va_iald hx hb hK hP 3 1 rfl rfl (ti_in rfl hi0_n_1108.1 (om_97cd4a7c b_iC_nodes.2 gc_1109)) dX4_weighNightNone_20 ?_
        refine lv_topi (fun x_1110 ex_1110 => ?_)
        have hG := hG.trans (lt_eq ex_1110)
        have rg_x_1110 := fb_rng x_1110
        have kx_1110 : (fC_kind z_1106.toNatClampNeg).toInt = x_1110.toInt := by rw [ex_1110]
        refine lv_if_ne (tgt := 30) hx hb dX4_weighNightNone_21 (by decide) (fun c_1111 => ?_) (fun c_1111 => ?_)
        · skip
          have hG := hG.trans (if_neg c_1111)
          have gc_1111 := ti_ne c_1111 rfl kc_0
          refine lv_bipush (v := 50) hx hb dX4_weighNightNone_30 (by decide) ?_
          refine lv_aload_n hx hb dX4_weighNightNone_32 rfl (lv_at hl 2 rfl) ?_
          refine va_get (D := (dC, dI)) (ci := 1) (v := .int iC_unit) (C := RX1) (T := TX1) (N := 19) hx hb hts inX1 hown hK hP 2 rfl rfl 7 (by decide) (hts _ wd_618) (fun _ h9 => h9) rfl dX4_weighNightNone_33 ?_
          have rg_iC_unit := fb_rng iC_unit
          refine lv_imul hx hb dX4_weighNightNone_36 ?_
          refine lv_topi (fun x_1112 ex_1112 => ?_)
          have hG := hG.trans (lt_eq ex_1112)
          have rg_x_1112 := fb_rng x_1112
          refine va_iast hx hb hK hP hD hS 1 0 rfl rfl (ti_in rfl hi0_n_1108.1 (om_97cd4a7c b_iC_nodes.2 gc_1109)) dX4_weighNightNone_37 (fun H locs hP hD hS => ?_)
          obtain ⟨f_1114, ef_1114⟩ : ∃ g : Nat → Int32, g = upd f_1107 z_1106.toNatClampNeg x_1112 := ⟨_, rfl⟩
          rw [← ef_1114] at hP hD
          have hG := hG.trans (lt_eq ef_1114)
          obtain ⟨hP, hD⟩ := wl2 (ws' := [(oc4 oL rL_values rL_supposed), (arI rL_values kL_values 18 f_1114), (oc1 oC iC_nodes iC_words iC_chances iC_unsures iC_slips iC_throneNode iC_saidWorth iC_unit rC_kind rC_parts rC_partNodes rC_weights rC_weightSums rC_toldWorths rC_steps rC_below rC_above rC_unsureWords rC_unsureWorths), (arI rC_kind kC_kind 18 fC_kind), (arI rW kW 18 fW)]) hP hD rfl
          obtain ⟨x_1115, ex_1115⟩ : ∃ z : Int32, z = z_1106 + Int32.ofInt 1 := ⟨_, rfl⟩
          have hG := hG.trans (lt_eq ex_1115)
          have vx_1115 : x_1115.toInt = z_1106.toInt + 1 := ti_add (y := 1) ex_1115 rfl kc_1 (om_4e4fce7e hi0_n_1108.1) (om_a32d6481 b_iC_nodes.2 gc_1109)
          refine lv_iinc (v := x_1115) (lv' := [(3, .int x_1115), (0, .ref oL), (1, .ref oC), (2, .ref rW)]) hx hb dX4_weighNightNone_38 hl (k := 0) rfl ex_1115.symm (by decide) rfl (fun ls hl => ?_)
          refine lv_goto (tgt := 2) hx hb dX4_weighNightNone_41 (by decide) ?_
          exact ih_n_1108 x_1115 f_1114 _ _ _  ⟨(om_83b90de5 hi0_n_1108.1 vx_1115), (om_ed8867da b_iC_nodes.2 gc_1109 vx_1115)⟩ (ms_lt hm_n_1108 (om_b9393183 vx_1115) (om_1d9fa7fb b_iC_nodes.2 gc_1109)) hG hP hD hS (lv_sub hl [0, 1, 2, 3] rfl)
        · skip
          have hG := hG.trans (if_pos c_1111)
          have gc_1111 := ti_eq c_1111 rfl kc_0
          refine lv_aload_n hx hb dX4_weighNightNone_24 rfl (lv_at hl 3 rfl) ?_
          refine lv_iload_n hx hb dX4_weighNightNone_25 rfl (lv_at hl 0 rfl) ?_
          refine va_iald hx hb hK hP 4 2 rfl rfl (ti_in rfl hi0_n_1108.1 (om_97cd4a7c b_iC_nodes.2 gc_1109)) dX4_weighNightNone_26 ?_
          refine lv_topi (fun x_1116 ex_1116 => ?_)
          have hG := hG.trans (lt_eq ex_1116)
          have rg_x_1116 := fb_rng x_1116
          have kx_1116 : (fW z_1106.toNatClampNeg).toInt = x_1116.toInt := by rw [ex_1116]
          refine lv_goto (tgt := 32) hx hb dX4_weighNightNone_27 (by decide) ?_
          refine lv_aload_n hx hb dX4_weighNightNone_32 rfl (lv_at hl 2 rfl) ?_
          refine va_get (D := (dC, dI)) (ci := 1) (v := .int iC_unit) (C := RX1) (T := TX1) (N := 19) hx hb hts inX1 hown hK hP 2 rfl rfl 7 (by decide) (hts _ wd_618) (fun _ h9 => h9) rfl dX4_weighNightNone_33 ?_
          have rg_iC_unit := fb_rng iC_unit
          refine lv_imul hx hb dX4_weighNightNone_36 ?_
          refine lv_topi (fun x_1117 ex_1117 => ?_)
          have hG := hG.trans (lt_eq ex_1117)
          have rg_x_1117 := fb_rng x_1117
          refine va_iast hx hb hK hP hD hS 1 0 rfl rfl (ti_in rfl hi0_n_1108.1 (om_97cd4a7c b_iC_nodes.2 gc_1109)) dX4_weighNightNone_37 (fun H locs hP hD hS => ?_)
          obtain ⟨f_1119, ef_1119⟩ : ∃ g : Nat → Int32, g = upd f_1107 z_1106.toNatClampNeg x_1117 := ⟨_, rfl⟩
          rw [← ef_1119] at hP hD
          have hG := hG.trans (lt_eq ef_1119)
          obtain ⟨hP, hD⟩ := wl2 (ws' := [(oc4 oL rL_values rL_supposed), (arI rL_values kL_values 18 f_1119), (oc1 oC iC_nodes iC_words iC_chances iC_unsures iC_slips iC_throneNode iC_saidWorth iC_unit rC_kind rC_parts rC_partNodes rC_weights rC_weightSums rC_toldWorths rC_steps rC_below rC_above rC_unsureWords rC_unsureWorths), (arI rC_kind kC_kind 18 fC_kind), (arI rW kW 18 fW)]) hP hD rfl
          obtain ⟨x_1120, ex_1120⟩ : ∃ z : Int32, z = z_1106 + Int32.ofInt 1 := ⟨_, rfl⟩
          have hG := hG.trans (lt_eq ex_1120)
          have vx_1120 : x_1120.toInt = z_1106.toInt + 1 := ti_add (y := 1) ex_1120 rfl kc_1 (om_4e4fce7e hi0_n_1108.1) (om_a32d6481 b_iC_nodes.2 gc_1109)
          refine lv_iinc (v := x_1120) (lv' := [(3, .int x_1120), (0, .ref oL), (1, .ref oC), (2, .ref rW)]) hx hb dX4_weighNightNone_38 hl (k := 0) rfl ex_1120.symm (by decide) rfl (fun ls hl => ?_)
          refine lv_goto (tgt := 2) hx hb dX4_weighNightNone_41 (by decide) ?_
          exact ih_n_1108 x_1120 f_1119 _ _ _  ⟨(om_83b90de5 hi0_n_1108.1 vx_1120), (om_ed8867da b_iC_nodes.2 gc_1109 vx_1120)⟩ (ms_lt hm_n_1108 (om_b9393183 vx_1120) (om_1d9fa7fb b_iC_nodes.2 gc_1109)) hG hP hD hS (lv_sub hl [0, 1, 2, 3] rfl)
  exact key_n_1108 (((2147483647 - (0 : Int32).toInt).toNat) + 1) 0 fL_values _ _ _  ⟨(om_b1de7dbe kc_0), (om_daf17c64 kc_0)⟩ (Nat.lt_add_one _) hG hP hD hS hl
set_option maxHeartbeats 4000000 in
set_option maxRecDepth 100000 in
theorem tX4_weighNextNight (l : Launch) (dC : Nat → ClassId) (dI : Nat → Nat → Nat) (sz : Nat) (oL : Nat) (rL_values : Nat) (fL_values : Nat → Int32) (kL_values : ClassId) (rL_supposed : Nat) (oC : Nat) (iC_nodes : Int32) (iC_words : Int32) (iC_chances : Int32) (iC_unsures : Int32) (iC_slips : Int32) (iC_throneNode : Int32) (iC_saidWorth : Int32) (iC_unit : Int32) (rC_kind : Nat) (fC_kind : Nat → Int32) (kC_kind : ClassId) (rC_parts : Nat) (fC_parts : Nat → Int32) (kC_parts : ClassId) (rC_partNodes : Nat) (fC_partNodes : Nat → Int32) (kC_partNodes : ClassId) (rC_weights : Nat) (fC_weights : Nat → Int32) (kC_weights : ClassId) (rC_weightSums : Nat) (fC_weightSums : Nat → Int32) (kC_weightSums : ClassId) (rC_toldWorths : Nat) (rC_steps : Nat) (rC_below : Nat) (rC_above : Nat) (rC_unsureWords : Nat) (rC_unsureWorths : Nat) (b_iC_nodes : 0 ≤ iC_nodes.toInt ∧ iC_nodes.toInt ≤ 18) (b_iC_unsures : 0 ≤ iC_unsures.toInt ∧ iC_unsures.toInt ≤ 4) (b_iC_throneNode : (-1) ≤ iC_throneNode.toInt ∧ iC_throneNode.toInt ≤ 17) (a_fC_parts : ∀ j : Nat, j < 18 → 0 ≤ (fC_parts j).toInt ∧ (fC_parts j).toInt ≤ 4) (a_fC_partNodes : ∀ j : Nat, j < 72 → 0 ≤ (fC_partNodes j).toInt ∧ (fC_partNodes j).toInt ≤ 17)  : Met l yX4_weighNextNight (Cond.code yX4_weighNextNight cX4_weighNextNight 3 none :: wG) ({ frames := 2, cells := 0, slots := 0, locals := 48 }) (va_Pc [.ref oL, .ref oC] (Pw dC dI sz [(oc4 oL rL_values rL_supposed), (arI rL_values kL_values 18 fL_values), (oc1 oC iC_nodes iC_words iC_chances iC_unsures iC_slips iC_throneNode iC_saidWorth iC_unit rC_kind rC_parts rC_partNodes rC_weights rC_weightSums rC_toldWorths rC_steps rC_below rC_above rC_unsureWords rC_unsureWorths), (arI rC_kind kC_kind 18 fC_kind), (arI rC_parts kC_parts 18 fC_parts), (arI rC_partNodes kC_partNodes 72 fC_partNodes), (arI rC_weights kC_weights 72 fC_weights), (arI rC_weightSums kC_weightSums 18 fC_weightSums)] [(kL_values, .int), (kC_kind, .int), (kC_parts, .int), (kC_partNodes, .int), (kC_weights, .int), (kC_weightSums, .int)])) (va_Qv (fun (_ : Nat) => True) (fun (_ : Nat) (t : State) => ∃ (nfL_values : Nat → Int32), (PX4_weighNextNight fL_values iC_nodes fC_kind fC_parts fC_partNodes fC_weights fC_weightSums = nfL_values) ∧ Bw dC dI (va_A [(oc4 oL rL_values rL_supposed), (arI rL_values kL_values 18 fL_values), (oc1 oC iC_nodes iC_words iC_chances iC_unsures iC_slips iC_throneNode iC_saidWorth iC_unit rC_kind rC_parts rC_partNodes rC_weights rC_weightSums rC_toldWorths rC_steps rC_below rC_above rC_unsureWords rC_unsureWorths), (arI rC_kind kC_kind 18 fC_kind), (arI rC_parts kC_parts 18 fC_parts), (arI rC_partNodes kC_partNodes 72 fC_partNodes), (arI rC_weights kC_weights 72 fC_weights), (arI rC_weightSums kC_weightSums 18 fC_weightSums)] sz) [(oc4 oL rL_values rL_supposed), (arI rL_values kL_values 18 nfL_values), (oc1 oC iC_nodes iC_words iC_chances iC_unsures iC_slips iC_throneNode iC_saidWorth iC_unit rC_kind rC_parts rC_partNodes rC_weights rC_weightSums rC_toldWorths rC_steps rC_below rC_above rC_unsureWords rC_unsureWorths), (arI rC_kind kC_kind 18 fC_kind), (arI rC_parts kC_parts 18 fC_parts), (arI rC_partNodes kC_partNodes 72 fC_partNodes), (arI rC_weights kC_weights 72 fC_weights), (arI rC_weightSums kC_weightSums 18 fC_weightSums)] [(kL_values, .int), (kC_kind, .int), (kC_parts, .int), (kC_partNodes, .int), (kC_weights, .int), (kC_weightSums, .int)] t) (va_A [(oc4 oL rL_values rL_supposed), (arI rL_values kL_values 18 fL_values), (oc1 oC iC_nodes iC_words iC_chances iC_unsures iC_slips iC_throneNode iC_saidWorth iC_unit rC_kind rC_parts rC_partNodes rC_weights rC_weightSums rC_toldWorths rC_steps rC_below rC_above rC_unsureWords rC_unsureWorths), (arI rC_kind kC_kind 18 fC_kind), (arI rC_parts kC_parts 18 fC_parts), (arI rC_partNodes kC_partNodes 72 fC_partNodes), (arI rC_weights kC_weights 72 fC_weights), (arI rC_weightSums kC_weightSums 18 fC_weightSums)] sz)) 0 0 (va_A [(oc4 oL rL_values rL_supposed), (arI rL_values kL_values 18 fL_values), (oc1 oC iC_nodes iC_words iC_chances iC_unsures iC_slips iC_throneNode iC_saidWorth iC_unit rC_kind rC_parts rC_partNodes rC_weights rC_weightSums rC_toldWorths rC_steps rC_below rC_above rC_unsureWords rC_unsureWorths), (arI rC_kind kC_kind 18 fC_kind), (arI rC_parts kC_parts 18 fC_parts), (arI rC_partNodes kC_partNodes 72 fC_partNodes), (arI rC_weights kC_weights 72 fC_weights), (arI rC_weightSums kC_weightSums 18 fC_weightSums)] sz) := by
  refine Met.ofW (cc := cX4_weighNextNight) (maxL := 3) (ret := none) pnX4 rfl ?_
  intro p e s m args below meth c s₁ B hml hv
  obtain ⟨rfl, hsz, hP, hK, hD0, hE⟩ := hv
  have hx := B.exec
  have hb := B.bytes
  have hr := B.returns
  have hts : ∀ w ∈ wG, w.before ([.ref oL, .ref oC] : List Value).toArray s = true := fun w h => atoms_spec (ws := Cond.code yX4_weighNextNight cX4_weighNextNight 3 none :: wG) B.pre w (List.mem_cons_of_mem _ h)
  have hown : s.vm.findClass RX4 = some m.cls := own_of B.named rfl
  have hlocks := B.notSynchronized
  subst hsz
  have hD := hD0.self (sz := s.heap.size)
  generalize hAe : va_A [(oc4 oL rL_values rL_supposed), (arI rL_values kL_values 18 fL_values), (oc1 oC iC_nodes iC_words iC_chances iC_unsures iC_slips iC_throneNode iC_saidWorth iC_unit rC_kind rC_parts rC_partNodes rC_weights rC_weightSums rC_toldWorths rC_steps rC_below rC_above rC_unsureWords rC_unsureWorths), (arI rC_kind kC_kind 18 fC_kind), (arI rC_parts kC_parts 18 fC_parts), (arI rC_partNodes kC_partNodes 72 fC_partNodes), (arI rC_weights kC_weights 72 fC_weights), (arI rC_weightSums kC_weightSums 18 fC_weightSums)] s.heap.size = A at hD hE ⊢
  have hA : ∀ q : Nat, s.heap.size ≤ q → A q := fun q h => by rw [← hAe]; exact Or.inr h
  have hS : va_S A s.heap s.heap [] := va_S.rf
  have hl := lv_entry ([.ref oL, .ref oC]) (n := 3) (Nat.le_of_ble_eq_true rfl)
  rw [lg_entry_eq]
  generalize (lg_sl ([.ref oL, .ref oC]) ++ List.replicate (3 - (lg_sl ([.ref oL, .ref oC])).length) Slot.unset).toArray = ls at hl ⊢
  have hl : lv_has ls 3 [(0, .ref oL), (1, .ref oC)] := hl
  have hG := PX4_weighNextNight_eq fL_values iC_nodes fC_kind fC_parts fC_partNodes fC_weights fC_weightSums
  refine lv_aload_n hx hb dX4_weighNextNight_0 rfl (lv_at hl 1 rfl) ?_
  refine va_get (D := (dC, dI)) (ci := 1) (v := .int iC_nodes) (C := RX1) (T := TX1) (N := 19) hx hb hts inX1 hown hK hP 2 rfl rfl 0 (by decide) (hts _ wd_616) (fun _ h9 => h9) rfl dX4_weighNextNight_1 ?_
  refine lv_iconst (v := 1) hx hb dX4_weighNextNight_4 (by decide) ?_
  refine lv_isub hx hb dX4_weighNextNight_5 ?_
  refine lv_topi (fun x_1142 ex_1142 => ?_)
  have hG := hG.trans (lt_eq ex_1142)
  have vx_1142 : x_1142.toInt = iC_nodes.toInt + (-1) := om_89646172 (ti_sub ex_1142 rfl kc_1 (om_e65a73c2 b_iC_nodes.1) (om_6178c2cd b_iC_nodes.2))
  refine lv_istore_n (lv' := [(2, .int x_1142), (0, .ref oL), (1, .ref oC)]) hx hb dX4_weighNextNight_6 rfl hl (by decide) rfl (fun ls hl => ?_)
  have hl := lv_sub hl (l' := [(2, .int x_1142), (0, .ref oL), (1, .ref oC)]) [0, 1, 2] rfl
  have key_n_1145 : ∀ (n_1145 : Nat) (z_1143 : Int32) (f_1144 : Nat → Int32) (H : Heap) (locs : List Loc) (ls : Array Slot), ((-1) ≤ z_1143.toInt ∧ z_1143.toInt ≤ 17) → (z_1143.toInt - (-1)).toNat < n_1145 → (PX4_weighNextNight fL_values iC_nodes fC_kind fC_parts fC_partNodes fC_weights fC_weightSums = HX4_weighNextNight_0 fC_kind fC_parts fC_partNodes fC_weights fC_weightSums n_1145 z_1143 f_1144) → va_P (dC, dI) vwCl [(oc4 oL rL_values rL_supposed), (arI rL_values kL_values 18 f_1144), (oc1 oC iC_nodes iC_words iC_chances iC_unsures iC_slips iC_throneNode iC_saidWorth iC_unit rC_kind rC_parts rC_partNodes rC_weights rC_weightSums rC_toldWorths rC_steps rC_below rC_above rC_unsureWords rC_unsureWorths), (arI rC_kind kC_kind 18 fC_kind), (arI rC_parts kC_parts 18 fC_parts), (arI rC_partNodes kC_partNodes 72 fC_partNodes), (arI rC_weights kC_weights 72 fC_weights), (arI rC_weightSums kC_weightSums 18 fC_weightSums)] H → va_D A [(oc4 oL rL_values rL_supposed), (arI rL_values kL_values 18 f_1144), (oc1 oC iC_nodes iC_words iC_chances iC_unsures iC_slips iC_throneNode iC_saidWorth iC_unit rC_kind rC_parts rC_partNodes rC_weights rC_weightSums rC_toldWorths rC_steps rC_below rC_above rC_unsureWords rC_unsureWorths), (arI rC_kind kC_kind 18 fC_kind), (arI rC_parts kC_parts 18 fC_parts), (arI rC_partNodes kC_partNodes 72 fC_partNodes), (arI rC_weights kC_weights 72 fC_weights), (arI rC_weightSums kC_weightSums 18 fC_weightSums)] → va_S A s.heap H locs → lv_has ls 3 [(2, .int z_1143), (0, .ref oL), (1, .ref oC)] → W p l e (headSpec (Cond.code yX4_weighNextNight cX4_weighNextNight 3 none :: wG) ({ frames := 2, cells := 0, slots := 0, locals := 48 })).room s m ([.ref oL, .ref oC] : List Value).toArray below meth c H locs 0 0 (MQ below (va_Qv (fun (_ : Nat) => True) (fun (_ : Nat) (t : State) => ∃ (nfL_values : Nat → Int32), (PX4_weighNextNight fL_values iC_nodes fC_kind fC_parts fC_partNodes fC_weights fC_weightSums = nfL_values) ∧ Bw dC dI A [(oc4 oL rL_values rL_supposed), (arI rL_values kL_values 18 nfL_values), (oc1 oC iC_nodes iC_words iC_chances iC_unsures iC_slips iC_throneNode iC_saidWorth iC_unit rC_kind rC_parts rC_partNodes rC_weights rC_weightSums rC_toldWorths rC_steps rC_below rC_above rC_unsureWords rC_unsureWorths), (arI rC_kind kC_kind 18 fC_kind), (arI rC_parts kC_parts 18 fC_parts), (arI rC_partNodes kC_partNodes 72 fC_partNodes), (arI rC_weights kC_weights 72 fC_weights), (arI rC_weightSums kC_weightSums 18 fC_weightSums)] [(kL_values, .int), (kC_kind, .int), (kC_parts, .int), (kC_partNodes, .int), (kC_weights, .int), (kC_weightSums, .int)] t) A) ([.ref oL, .ref oC] : List Value).toArray s 0 0 A) (F0 m 7 ls []) := by
    intro n_1145
    induction n_1145 with
    | zero => intro z_1143 f_1144 H locs ls hi0_n_1145 hm; exact absurd hm (Nat.not_lt_zero _)
    | succ n_1145 ih_n_1145 =>
      intro z_1143 f_1144 H locs ls hi0_n_1145 hm_n_1145 hG hP hD hS hl
      have hG := hG.trans (HX4_weighNextNight_0_eq _ _ _ _ _ _ _ _)
      refine lv_iload_n hx hb dX4_weighNextNight_7 rfl (lv_at hl 0 rfl) ?_
      refine lv_if_lt (tgt := 38) hx hb dX4_weighNextNight_8 (by decide) (fun c_1146 => ?_) (fun c_1146 => ?_)
      · skip
        have hG := hG.trans (if_pos c_1146)
        have gc_1146 := ti_lt c_1146 rfl kc_0
        exact wq_v hx hb hr 0 trivial (fun t ht hW => ⟨f_1144, hG, Bw.to hP hD hK ht hW⟩) hS dX4_weighNextNight_38 hlocks
      · skip
        have hG := hG.trans (if_neg c_1146)
        have gc_1146 := ti_nlt c_1146 rfl kc_0
        refine lv_aload_n hx hb dX4_weighNextNight_11 rfl (lv_at hl 2 rfl) ?_
        refine va_get (D := (dC, dI)) (ci := 1) (v := .ref rC_kind) (C := RX1) (T := TX1) (N := 19) hx hb hts inX1 hown hK hP 2 rfl rfl 8 (by decide) (hts _ wd_617) (fun _ h9 => h9) rfl dX4_weighNextNight_12 ?_
        refine lv_iload_n hx hb dX4_weighNextNight_15 rfl (lv_at hl 0 rfl) ?_
        refine va_iald hx hb hK hP 3 1 rfl rfl (ti_in rfl gc_1146 (om_b3735a34 hi0_n_1145.2)) dX4_weighNextNight_16 ?_
        refine lv_topi (fun x_1147 ex_1147 => ?_)
        have hG := hG.trans (lt_eq ex_1147)
        have kx_1147 : (fC_kind z_1143.toNatClampNeg).toInt = x_1147.toInt := by rw [ex_1147]
        refine lv_if_eq (tgt := 32) hx hb dX4_weighNextNight_17 (by decide) (fun c_1148 => ?_) (fun c_1148 => ?_)
        · skip
          have hG := hG.trans (if_pos c_1148)
          have gc_1148 := ti_eq c_1148 rfl kc_0
          obtain ⟨x_1149, ex_1149⟩ : ∃ z : Int32, z = z_1143 + Int32.ofInt (-1) := ⟨_, rfl⟩
          have hG := hG.trans (lt_eq ex_1149)
          have vx_1149 : x_1149.toInt = z_1143.toInt + (-1) := ti_add (y := (-1)) ex_1149 rfl kc_m1 (om_7c9e45be hi0_n_1145.1) (om_27bcd485 hi0_n_1145.2)
          refine lv_iinc (v := x_1149) (lv' := [(2, .int x_1149), (0, .ref oL), (1, .ref oC)]) hx hb dX4_weighNextNight_32 hl (k := 0) rfl ex_1149.symm (by decide) rfl (fun ls hl => ?_)
          refine lv_goto (tgt := 7) hx hb dX4_weighNextNight_35 (by decide) ?_
          exact ih_n_1145 x_1149 f_1144 _ _ _  ⟨(om_73d763a0 gc_1146 vx_1149), (om_96a52bfb hi0_n_1145.2 vx_1149)⟩ (ms_lt hm_n_1145 (om_a2cb7fa1 vx_1149) (om_9b4dc480 gc_1146)) hG hP hD hS (lv_sub hl [0, 1, 2] rfl)
        · skip
          have hG := hG.trans (if_neg c_1148)
          have gc_1148 := ti_ne c_1148 rfl kc_0
          refine lv_aload_n hx hb dX4_weighNextNight_20 rfl (lv_at hl 1 rfl) ?_
          refine va_get (D := (dC, dI)) (ci := 4) (v := .ref rL_values) (C := RX4) (T := TX4) (N := 2) hx hb hts inX4 hown hK hP 0 rfl rfl 0 (by decide) (hts _ wd_146) (fun _ h9 => h9) rfl dX4_weighNextNight_21 ?_
          refine lv_iload_n hx hb dX4_weighNextNight_24 rfl (lv_at hl 0 rfl) ?_
          refine lv_aload_n hx hb dX4_weighNextNight_25 rfl (lv_at hl 1 rfl) ?_
          refine lv_aload_n hx hb dX4_weighNextNight_26 rfl (lv_at hl 2 rfl) ?_
          refine lv_iload_n hx hb dX4_weighNextNight_27 rfl (lv_at hl 0 rfl) ?_
          have hFc := va_freeI hD hS hA
          refine va_calli (va_runV (As := [.ref oC, .int z_1143]) (rest := [.int z_1143, .ref rL_values]) ⟨hx, hb, hml, hown, hts⟩ (tX4_joined l dC dI _ oL rL_values f_1144 kL_values rL_supposed oC iC_nodes iC_words iC_chances iC_unsures iC_slips iC_throneNode iC_saidWorth iC_unit rC_kind fC_kind kC_kind rC_parts fC_parts kC_parts rC_partNodes fC_partNodes kC_partNodes rC_weights fC_weights kC_weights rC_weightSums fC_weightSums kC_weightSums rC_toldWorths rC_steps rC_below rC_above rC_unsureWords rC_unsureWorths z_1143 b_iC_nodes b_iC_unsures b_iC_throneNode a_fC_parts a_fC_partNodes ⟨gc_1146, hi0_n_1145.2⟩) (cwV 2 hts (wd_V wd_619 wd_620 wd_621 wd_37 (wd_c wd_622)) rfl rfl rfl dv_yX4_joined_2 ⟨Nat.le_of_ble_eq_true rfl, Nat.le_of_ble_eq_true rfl⟩) ⟨Pw.fb, recvX4 hK hP (q0 := 0) rfl, fun U hU hW => Pw.to hP hD hK hE hS hFc hU hW⟩ rfl rfl hl.1 rfl (lv_room (Nat.le_of_ble_eq_true rfl)) dX4_weighNextNight_28 ⟨Nat.le_of_ble_eq_true rfl, Nat.le_of_ble_eq_true rfl⟩) hS (fun q _ h => hFc q h) hFc (fun r u t H locs ht hvm hw hB hz1 hk1 hS => ?_)
          have hru9 := hw.2
          have hw := hw.1
          obtain ⟨hP, hD⟩ := Bw.goA (ws' := [(oc4 oL rL_values rL_supposed), (arI rL_values kL_values 18 f_1144), (oc1 oC iC_nodes iC_words iC_chances iC_unsures iC_slips iC_throneNode iC_saidWorth iC_unit rC_kind rC_parts rC_partNodes rC_weights rC_weightSums rC_toldWorths rC_steps rC_below rC_above rC_unsureWords rC_unsureWorths), (arI rC_kind kC_kind 18 fC_kind), (arI rC_parts kC_parts 18 fC_parts), (arI rC_partNodes kC_partNodes 72 fC_partNodes), (arI rC_weights kC_weights 72 fC_weights), (arI rC_weightSums kC_weightSums 18 fC_weightSums)]) hB rfl ht hFc rfl
          clear hz1 hk1 hvm ht hB
          obtain ⟨x_1150, rfl⟩ : ∃ z, z = r := ⟨_, rfl⟩
          have hG := hG.trans (lt_eq hru9.symm)
          refine va_iast hx hb hK hP hD hS 1 0 rfl rfl (ti_in rfl gc_1146 (om_b3735a34 hi0_n_1145.2)) dX4_weighNextNight_31 (fun H locs hP hD hS => ?_)
          obtain ⟨f_1152, ef_1152⟩ : ∃ g : Nat → Int32, g = upd f_1144 z_1143.toNatClampNeg x_1150 := ⟨_, rfl⟩
          rw [← ef_1152] at hP hD
          have hG := hG.trans (lt_eq ef_1152)
          obtain ⟨hP, hD⟩ := wl2 (ws' := [(oc4 oL rL_values rL_supposed), (arI rL_values kL_values 18 f_1152), (oc1 oC iC_nodes iC_words iC_chances iC_unsures iC_slips iC_throneNode iC_saidWorth iC_unit rC_kind rC_parts rC_partNodes rC_weights rC_weightSums rC_toldWorths rC_steps rC_below rC_above rC_unsureWords rC_unsureWorths), (arI rC_kind kC_kind 18 fC_kind), (arI rC_parts kC_parts 18 fC_parts), (arI rC_partNodes kC_partNodes 72 fC_partNodes), (arI rC_weights kC_weights 72 fC_weights), (arI rC_weightSums kC_weightSums 18 fC_weightSums)]) hP hD rfl
          obtain ⟨x_1153, ex_1153⟩ : ∃ z : Int32, z = z_1143 + Int32.ofInt (-1) := ⟨_, rfl⟩
          have hG := hG.trans (lt_eq ex_1153)
          have vx_1153 : x_1153.toInt = z_1143.toInt + (-1) := ti_add (y := (-1)) ex_1153 rfl kc_m1 (om_7c9e45be hi0_n_1145.1) (om_27bcd485 hi0_n_1145.2)
          refine lv_iinc (v := x_1153) (lv' := [(2, .int x_1153), (0, .ref oL), (1, .ref oC)]) hx hb dX4_weighNextNight_32 hl (k := 0) rfl ex_1153.symm (by decide) rfl (fun ls hl => ?_)
          refine lv_goto (tgt := 7) hx hb dX4_weighNextNight_35 (by decide) ?_
          exact ih_n_1145 x_1153 f_1152 _ _ _  ⟨(om_73d763a0 gc_1146 vx_1153), (om_96a52bfb hi0_n_1145.2 vx_1153)⟩ (ms_lt hm_n_1145 (om_a2cb7fa1 vx_1153) (om_9b4dc480 gc_1146)) hG hP hD hS (lv_sub hl [0, 1, 2] rfl)
  exact key_n_1145 (((x_1142.toInt - (-1)).toNat) + 1) x_1142 fL_values _ _ _  ⟨(om_73d763a0 b_iC_nodes.1 vx_1142), (om_18eccbe9 b_iC_nodes.2 vx_1142)⟩ (Nat.lt_add_one _) hG hP hD hS hl
