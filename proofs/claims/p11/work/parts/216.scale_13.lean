set_option maxHeartbeats 4000000 in
set_option maxRecDepth 100000 in
theorem tX4_throneValue (l : Launch) (dC : Nat → ClassId) (dI : Nat → Nat → Nat) (sz : Nat) (oL : Nat) (rL_values : Nat) (fL_values : Nat → Int32) (kL_values : ClassId) (rL_supposed : Nat) (oC : Nat) (iC_nodes : Int32) (iC_words : Int32) (iC_chances : Int32) (iC_unsures : Int32) (iC_slips : Int32) (iC_throneNode : Int32) (iC_saidWorth : Int32) (iC_unit : Int32) (rC_kind : Nat) (rC_parts : Nat) (rC_partNodes : Nat) (rC_weights : Nat) (rC_weightSums : Nat) (rC_toldWorths : Nat) (rC_steps : Nat) (rC_below : Nat) (rC_above : Nat) (rC_unsureWords : Nat) (rC_unsureWorths : Nat) (b_iC_nodes : 0 ≤ iC_nodes.toInt ∧ iC_nodes.toInt ≤ 18) (b_iC_unsures : 0 ≤ iC_unsures.toInt ∧ iC_unsures.toInt ≤ 4) (b_iC_throneNode : (-1) ≤ iC_throneNode.toInt ∧ iC_throneNode.toInt ≤ 17)  : Met l yX4_throneValue (Cond.code yX4_throneValue cX4_throneValue 2 (some .int) :: wG) ({ frames := 1, cells := 0, slots := 0, locals := 21 }) (va_Pc [.ref oL, .ref oC] (Pw dC dI sz [(oc4 oL rL_values rL_supposed), (arI rL_values kL_values 18 fL_values), (oc1 oC iC_nodes iC_words iC_chances iC_unsures iC_slips iC_throneNode iC_saidWorth iC_unit rC_kind rC_parts rC_partNodes rC_weights rC_weightSums rC_toldWorths rC_steps rC_below rC_above rC_unsureWords rC_unsureWorths)] [(kL_values, .int)])) (va_Qi (fun (r : Int32) (_ : Nat) => (True ∧ True) ∧ PX4_throneValue fL_values iC_nodes iC_throneNode = r) (fun (_ : Nat) (t : State) => Bw dC dI (va_A [(oc4 oL rL_values rL_supposed), (arI rL_values kL_values 18 fL_values), (oc1 oC iC_nodes iC_words iC_chances iC_unsures iC_slips iC_throneNode iC_saidWorth iC_unit rC_kind rC_parts rC_partNodes rC_weights rC_weightSums rC_toldWorths rC_steps rC_below rC_above rC_unsureWords rC_unsureWorths)] sz) [(oc4 oL rL_values rL_supposed), (arI rL_values kL_values 18 fL_values), (oc1 oC iC_nodes iC_words iC_chances iC_unsures iC_slips iC_throneNode iC_saidWorth iC_unit rC_kind rC_parts rC_partNodes rC_weights rC_weightSums rC_toldWorths rC_steps rC_below rC_above rC_unsureWords rC_unsureWorths)] [(kL_values, .int)] t) (va_A [(oc4 oL rL_values rL_supposed), (arI rL_values kL_values 18 fL_values), (oc1 oC iC_nodes iC_words iC_chances iC_unsures iC_slips iC_throneNode iC_saidWorth iC_unit rC_kind rC_parts rC_partNodes rC_weights rC_weightSums rC_toldWorths rC_steps rC_below rC_above rC_unsureWords rC_unsureWorths)] sz)) 0 0 (va_A [(oc4 oL rL_values rL_supposed), (arI rL_values kL_values 18 fL_values), (oc1 oC iC_nodes iC_words iC_chances iC_unsures iC_slips iC_throneNode iC_saidWorth iC_unit rC_kind rC_parts rC_partNodes rC_weights rC_weightSums rC_toldWorths rC_steps rC_below rC_above rC_unsureWords rC_unsureWorths)] sz) := by
  refine Met.ofW (cc := cX4_throneValue) (maxL := 2) (ret := (some .int)) pnX4 rfl ?_
  intro p e s m args below meth c s₁ B hml hv
  obtain ⟨rfl, hsz, hP, hK, hD0, hE⟩ := hv
  have hx := B.exec
  have hb := B.bytes
  have hr := B.returns
  have hts : ∀ w ∈ wG, w.before ([.ref oL, .ref oC] : List Value).toArray s = true := fun w h => atoms_spec (ws := Cond.code yX4_throneValue cX4_throneValue 2 (some .int) :: wG) B.pre w (List.mem_cons_of_mem _ h)
  have hown : s.vm.findClass RX4 = some m.cls := own_of B.named rfl
  have hlocks := B.notSynchronized
  subst hsz
  have hD := hD0.self (sz := s.heap.size)
  generalize hAe : va_A [(oc4 oL rL_values rL_supposed), (arI rL_values kL_values 18 fL_values), (oc1 oC iC_nodes iC_words iC_chances iC_unsures iC_slips iC_throneNode iC_saidWorth iC_unit rC_kind rC_parts rC_partNodes rC_weights rC_weightSums rC_toldWorths rC_steps rC_below rC_above rC_unsureWords rC_unsureWorths)] s.heap.size = A at hD hE ⊢
  have hA : ∀ q : Nat, s.heap.size ≤ q → A q := fun q h => by rw [← hAe]; exact Or.inr h
  have hS : va_S A s.heap s.heap [] := va_S.rf
  have hl := lv_entry ([.ref oL, .ref oC]) (n := 2) (Nat.le_of_ble_eq_true rfl)
  rw [lg_entry_eq]
  generalize (lg_sl ([.ref oL, .ref oC]) ++ List.replicate (2 - (lg_sl ([.ref oL, .ref oC])).length) Slot.unset).toArray = ls at hl ⊢
  have hl : lv_has ls 2 [(0, .ref oL), (1, .ref oC)] := hl
  have hG := PX4_throneValue_eq fL_values iC_nodes iC_throneNode
  refine lv_aload_n hx hb dX4_throneValue_0 rfl (lv_at hl 1 rfl) ?_
  refine lv_aload_n hx hb dX4_throneValue_1 rfl (lv_at hl 1 rfl) ?_
  refine va_get (D := (dC, dI)) (ci := 1) (v := .int iC_throneNode) (C := RX1) (T := TX1) (N := 19) hx hb hts inX1 hown hK hP 2 rfl rfl 5 (by decide) (hts _ wd_633) (fun _ h9 => h9) rfl dX4_throneValue_2 ?_
  have hMs := ml_of hD [false, false, true] (wc := [(oc1 oC iC_nodes iC_words iC_chances iC_unsures iC_slips iC_throneNode iC_saidWorth iC_unit rC_kind rC_parts rC_partNodes rC_weights rC_weightSums rC_toldWorths rC_steps rC_below rC_above rC_unsureWords rC_unsureWorths)]) rfl
  have hFc := va_freeM hD hS hA _ hMs
  refine va_calli (va_runV (As := [.int iC_throneNode]) (rest := []) ⟨hx, hb, hml, hown, hts⟩ (tX1_hasNode l dC dI _ oC iC_nodes iC_words iC_chances iC_unsures iC_slips iC_throneNode iC_saidWorth iC_unit rC_kind rC_parts rC_partNodes rC_weights rC_weightSums rC_toldWorths rC_steps rC_below rC_above rC_unsureWords rC_unsureWorths iC_throneNode b_iC_nodes b_iC_unsures b_iC_throneNode) (cwV 1 hts (wd_V wd_634 wd_326 wd_327 wd_19 (wd_c wd_328)) rfl rfl rfl dv_yX1_hasNode_1 ⟨Nat.le_of_ble_eq_true rfl, Nat.le_of_ble_eq_true rfl⟩) ⟨Pw.fb, recvX1 hK hP (q0 := 2) rfl, fun U hU hW => Pw.to (hP.ms _ hMs) (hD.ms _ hMs) (hK.ms [false] rfl) hE hS hFc hU hW⟩ rfl rfl hl.1 rfl (lv_room (Nat.le_of_ble_eq_true rfl)) dX4_throneValue_5 ⟨Nat.le_of_ble_eq_true rfl, Nat.le_of_ble_eq_true rfl⟩) hS (fun q _ h => hFc q h) hFc (fun r u t H locs ht hvm hw hB hz1 hk1 hS => ?_)
  have hru9 := hw.2
  have hw := hw.1
  obtain ⟨hP, hD⟩ := Bw.goN (ws' := [(oc4 oL rL_values rL_supposed), (arI rL_values kL_values 18 fL_values), (oc1 oC iC_nodes iC_words iC_chances iC_unsures iC_slips iC_throneNode iC_saidWorth iC_unit rC_kind rC_parts rC_partNodes rC_weights rC_weightSums rC_toldWorths rC_steps rC_below rC_above rC_unsureWords rC_unsureWorths)]) hB rfl ht hP hD _ hMs hk1 hFc rfl
  clear hz1 hk1 hvm ht hB hMs
  rcases hw.2 with ⟨rfl, hc_753⟩ | ⟨rfl, hc_753⟩
  · skip
    have hG := hG.trans (lt_eq hru9.symm)
    have hG := hG.trans (if_pos rfl)
    refine lv_if_eq (tgt := 23) hx hb dX4_throneValue_8 (by decide) (fun c => absurd c (by decide)) (fun _ => ?_)
    refine lv_aload_n hx hb dX4_throneValue_11 rfl (lv_at hl 0 rfl) ?_
    refine va_get (D := (dC, dI)) (ci := 4) (v := .ref rL_values) (C := RX4) (T := TX4) (N := 2) hx hb hts inX4 hown hK hP 0 rfl rfl 0 (by decide) (hts _ wd_146) (fun _ h9 => h9) rfl dX4_throneValue_12 ?_
    refine lv_aload_n hx hb dX4_throneValue_15 rfl (lv_at hl 1 rfl) ?_
    refine va_get (D := (dC, dI)) (ci := 1) (v := .int iC_throneNode) (C := RX1) (T := TX1) (N := 19) hx hb hts inX1 hown hK hP 2 rfl rfl 5 (by decide) (hts _ wd_633) (fun _ h9 => h9) rfl dX4_throneValue_16 ?_
    refine va_iald hx hb hK hP 1 0 rfl rfl (ti_in rfl hc_753.1 (om_b3735a34 b_iC_throneNode.2)) dX4_throneValue_19 ?_
    refine lv_topi (fun x_756 ex_756 => ?_)
    have hG := hG.trans (lt_eq ex_756)
    have kx_756 : (fL_values iC_throneNode.toNatClampNeg).toInt = x_756.toInt := by rw [ex_756]
    refine lv_goto (tgt := 24) hx hb dX4_throneValue_20 (by decide) ?_
    exact wq_i hx hb hr 0 ⟨⟨trivial, trivial⟩, hG⟩ (fun t ht hW => Bw.to hP hD hK ht hW) hS dX4_throneValue_24 hlocks
  · skip
    have hG := hG.trans (lt_eq hru9.symm)
    have hG := hG.trans (if_neg (by decide))
    refine lv_if_eq (tgt := 23) hx hb dX4_throneValue_8 (by decide) (fun _ => ?_) (fun c => absurd c (by decide))
    refine lv_iconst (v := 0) hx hb dX4_throneValue_23 (by decide) ?_
    exact wq_i hx hb hr 0 ⟨⟨trivial, trivial⟩, hG⟩ (fun t ht hW => Bw.to hP hD hK ht hW) hS dX4_throneValue_24 hlocks
set_option maxHeartbeats 4000000 in
set_option maxRecDepth 100000 in
theorem tX4_joined (l : Launch) (dC : Nat → ClassId) (dI : Nat → Nat → Nat) (sz : Nat) (oL : Nat) (rL_values : Nat) (fL_values : Nat → Int32) (kL_values : ClassId) (rL_supposed : Nat) (oC : Nat) (iC_nodes : Int32) (iC_words : Int32) (iC_chances : Int32) (iC_unsures : Int32) (iC_slips : Int32) (iC_throneNode : Int32) (iC_saidWorth : Int32) (iC_unit : Int32) (rC_kind : Nat) (fC_kind : Nat → Int32) (kC_kind : ClassId) (rC_parts : Nat) (fC_parts : Nat → Int32) (kC_parts : ClassId) (rC_partNodes : Nat) (fC_partNodes : Nat → Int32) (kC_partNodes : ClassId) (rC_weights : Nat) (fC_weights : Nat → Int32) (kC_weights : ClassId) (rC_weightSums : Nat) (fC_weightSums : Nat → Int32) (kC_weightSums : ClassId) (rC_toldWorths : Nat) (rC_steps : Nat) (rC_below : Nat) (rC_above : Nat) (rC_unsureWords : Nat) (rC_unsureWorths : Nat) (p0 : Int32) (b_iC_nodes : 0 ≤ iC_nodes.toInt ∧ iC_nodes.toInt ≤ 18) (b_iC_unsures : 0 ≤ iC_unsures.toInt ∧ iC_unsures.toInt ≤ 4) (b_iC_throneNode : (-1) ≤ iC_throneNode.toInt ∧ iC_throneNode.toInt ≤ 17) (a_fC_parts : ∀ j : Nat, j < 18 → 0 ≤ (fC_parts j).toInt ∧ (fC_parts j).toInt ≤ 4) (a_fC_partNodes : ∀ j : Nat, j < 72 → 0 ≤ (fC_partNodes j).toInt ∧ (fC_partNodes j).toInt ≤ 17) (hp0 : 0 ≤ p0.toInt ∧ p0.toInt ≤ 17) : Met l yX4_joined (Cond.code yX4_joined cX4_joined 8 (some .int) :: wG) ({ frames := 1, cells := 0, slots := 0, locals := 21 }) (va_Pc [.ref oL, .ref oC, .int p0] (Pw dC dI sz [(oc4 oL rL_values rL_supposed), (arI rL_values kL_values 18 fL_values), (oc1 oC iC_nodes iC_words iC_chances iC_unsures iC_slips iC_throneNode iC_saidWorth iC_unit rC_kind rC_parts rC_partNodes rC_weights rC_weightSums rC_toldWorths rC_steps rC_below rC_above rC_unsureWords rC_unsureWorths), (arI rC_kind kC_kind 18 fC_kind), (arI rC_parts kC_parts 18 fC_parts), (arI rC_partNodes kC_partNodes 72 fC_partNodes), (arI rC_weights kC_weights 72 fC_weights), (arI rC_weightSums kC_weightSums 18 fC_weightSums)] [(kL_values, .int), (kC_kind, .int), (kC_parts, .int), (kC_partNodes, .int), (kC_weights, .int), (kC_weightSums, .int)])) (va_Qi (fun (r : Int32) (_ : Nat) => (True ∧ True) ∧ PX4_joined fL_values fC_kind fC_parts fC_partNodes fC_weights fC_weightSums p0 = r) (fun (_ : Nat) (t : State) => Bw dC dI (va_A [(oc4 oL rL_values rL_supposed), (arI rL_values kL_values 18 fL_values), (oc1 oC iC_nodes iC_words iC_chances iC_unsures iC_slips iC_throneNode iC_saidWorth iC_unit rC_kind rC_parts rC_partNodes rC_weights rC_weightSums rC_toldWorths rC_steps rC_below rC_above rC_unsureWords rC_unsureWorths), (arI rC_kind kC_kind 18 fC_kind), (arI rC_parts kC_parts 18 fC_parts), (arI rC_partNodes kC_partNodes 72 fC_partNodes), (arI rC_weights kC_weights 72 fC_weights), (arI rC_weightSums kC_weightSums 18 fC_weightSums)] sz) [(oc4 oL rL_values rL_supposed), (arI rL_values kL_values 18 fL_values), (oc1 oC iC_nodes iC_words iC_chances iC_unsures iC_slips iC_throneNode iC_saidWorth iC_unit rC_kind rC_parts rC_partNodes rC_weights rC_weightSums rC_toldWorths rC_steps rC_below rC_above rC_unsureWords rC_unsureWorths), (arI rC_kind kC_kind 18 fC_kind), (arI rC_parts kC_parts 18 fC_parts), (arI rC_partNodes kC_partNodes 72 fC_partNodes), (arI rC_weights kC_weights 72 fC_weights), (arI rC_weightSums kC_weightSums 18 fC_weightSums)] [(kL_values, .int), (kC_kind, .int), (kC_parts, .int), (kC_partNodes, .int), (kC_weights, .int), (kC_weightSums, .int)] t) (va_A [(oc4 oL rL_values rL_supposed), (arI rL_values kL_values 18 fL_values), (oc1 oC iC_nodes iC_words iC_chances iC_unsures iC_slips iC_throneNode iC_saidWorth iC_unit rC_kind rC_parts rC_partNodes rC_weights rC_weightSums rC_toldWorths rC_steps rC_below rC_above rC_unsureWords rC_unsureWorths), (arI rC_kind kC_kind 18 fC_kind), (arI rC_parts kC_parts 18 fC_parts), (arI rC_partNodes kC_partNodes 72 fC_partNodes), (arI rC_weights kC_weights 72 fC_weights), (arI rC_weightSums kC_weightSums 18 fC_weightSums)] sz)) 0 0 (va_A [(oc4 oL rL_values rL_supposed), (arI rL_values kL_values 18 fL_values), (oc1 oC iC_nodes iC_words iC_chances iC_unsures iC_slips iC_throneNode iC_saidWorth iC_unit rC_kind rC_parts rC_partNodes rC_weights rC_weightSums rC_toldWorths rC_steps rC_below rC_above rC_unsureWords rC_unsureWorths), (arI rC_kind kC_kind 18 fC_kind), (arI rC_parts kC_parts 18 fC_parts), (arI rC_partNodes kC_partNodes 72 fC_partNodes), (arI rC_weights kC_weights 72 fC_weights), (arI rC_weightSums kC_weightSums 18 fC_weightSums)] sz) := by
  refine Met.ofW (cc := cX4_joined) (maxL := 8) (ret := (some .int)) pnX4 rfl ?_
  intro p e s m args below meth c s₁ B hml hv
  obtain ⟨rfl, hsz, hP, hK, hD0, hE⟩ := hv
  have hx := B.exec
  have hb := B.bytes
  have hr := B.returns
  have hts : ∀ w ∈ wG, w.before ([.ref oL, .ref oC, .int p0] : List Value).toArray s = true := fun w h => atoms_spec (ws := Cond.code yX4_joined cX4_joined 8 (some .int) :: wG) B.pre w (List.mem_cons_of_mem _ h)
  have hown : s.vm.findClass RX4 = some m.cls := own_of B.named rfl
  have hlocks := B.notSynchronized
  subst hsz
  have hD := hD0.self (sz := s.heap.size)
  generalize hAe : va_A [(oc4 oL rL_values rL_supposed), (arI rL_values kL_values 18 fL_values), (oc1 oC iC_nodes iC_words iC_chances iC_unsures iC_slips iC_throneNode iC_saidWorth iC_unit rC_kind rC_parts rC_partNodes rC_weights rC_weightSums rC_toldWorths rC_steps rC_below rC_above rC_unsureWords rC_unsureWorths), (arI rC_kind kC_kind 18 fC_kind), (arI rC_parts kC_parts 18 fC_parts), (arI rC_partNodes kC_partNodes 72 fC_partNodes), (arI rC_weights kC_weights 72 fC_weights), (arI rC_weightSums kC_weightSums 18 fC_weightSums)] s.heap.size = A at hD hE ⊢
  have hA : ∀ q : Nat, s.heap.size ≤ q → A q := fun q h => by rw [← hAe]; exact Or.inr h
  have hS : va_S A s.heap s.heap [] := va_S.rf
  have hl := lv_entry ([.ref oL, .ref oC, .int p0]) (n := 8) (Nat.le_of_ble_eq_true rfl)
  rw [lg_entry_eq]
  generalize (lg_sl ([.ref oL, .ref oC, .int p0]) ++ List.replicate (8 - (lg_sl ([.ref oL, .ref oC, .int p0])).length) Slot.unset).toArray = ls at hl ⊢
  have hl : lv_has ls 8 [(0, .ref oL), (1, .ref oC), (2, .int p0)] := hl
  have hG := PX4_joined_eq fL_values fC_kind fC_parts fC_partNodes fC_weights fC_weightSums p0
  have rg_p0 := fb_rng p0
  refine lv_aload_n hx hb dX4_joined_0 rfl (lv_at hl 1 rfl) ?_
  refine va_get (D := (dC, dI)) (ci := 1) (v := .ref rC_kind) (C := RX1) (T := TX1) (N := 19) hx hb hts inX1 hown hK hP 2 rfl rfl 8 (by decide) (hts _ wd_617) (fun _ h9 => h9) rfl dX4_joined_1 ?_
  refine lv_iload_n hx hb dX4_joined_4 rfl (lv_at hl 2 rfl) ?_
  refine va_iald hx hb hK hP 3 1 rfl rfl (ti_in rfl hp0.1 (om_b3735a34 hp0.2)) dX4_joined_5 ?_
  refine lv_topi (fun x_800 ex_800 => ?_)
  have hG := hG.trans (lt_eq ex_800)
  have rg_x_800 := fb_rng x_800
  have kx_800 : (fC_kind p0.toNatClampNeg).toInt = x_800.toInt := by rw [ex_800]
  refine lv_istore_n (lv' := [(3, .int x_800), (0, .ref oL), (1, .ref oC), (2, .int p0)]) hx hb dX4_joined_6 rfl hl (by decide) rfl (fun ls hl => ?_)
  refine lv_iconst (v := 0) hx hb dX4_joined_7 (by decide) ?_
  refine lv_istore (lv' := [(4, .int 0), (3, .int x_800), (0, .ref oL), (1, .ref oC), (2, .int p0)]) hx hb dX4_joined_8 hl (by decide) rfl (fun ls hl => ?_)
  refine lv_iconst (v := 0) hx hb dX4_joined_10 (by decide) ?_
  refine lv_istore (lv' := [(5, .int 0), (4, .int 0), (3, .int x_800), (0, .ref oL), (1, .ref oC), (2, .int p0)]) hx hb dX4_joined_11 hl (by decide) rfl (fun ls hl => ?_)
  have hl := lv_sub hl (l' := [(5, .int 0), (4, .int 0), (3, .int x_800), (0, .ref oL), (1, .ref oC), (2, .int p0)]) [0, 1, 2, 3, 4, 5] rfl
  have key_n_803 : ∀ (n_803 : Nat) (z_801 : Int32) (z_802 : Int32) (H : Heap) (locs : List Loc) (ls : Array Slot), (0 ≤ z_801.toInt ∧ z_801.toInt ≤ 2147483647) → (2147483647 - z_801.toInt).toNat < n_803 → (PX4_joined fL_values fC_kind fC_parts fC_partNodes fC_weights fC_weightSums p0 = HX4_joined_0 fL_values fC_parts fC_partNodes fC_weights fC_weightSums p0 x_800 n_803 z_801 z_802) → va_P (dC, dI) vwCl [(oc4 oL rL_values rL_supposed), (arI rL_values kL_values 18 fL_values), (oc1 oC iC_nodes iC_words iC_chances iC_unsures iC_slips iC_throneNode iC_saidWorth iC_unit rC_kind rC_parts rC_partNodes rC_weights rC_weightSums rC_toldWorths rC_steps rC_below rC_above rC_unsureWords rC_unsureWorths), (arI rC_kind kC_kind 18 fC_kind), (arI rC_parts kC_parts 18 fC_parts), (arI rC_partNodes kC_partNodes 72 fC_partNodes), (arI rC_weights kC_weights 72 fC_weights), (arI rC_weightSums kC_weightSums 18 fC_weightSums)] H → va_D A [(oc4 oL rL_values rL_supposed), (arI rL_values kL_values 18 fL_values), (oc1 oC iC_nodes iC_words iC_chances iC_unsures iC_slips iC_throneNode iC_saidWorth iC_unit rC_kind rC_parts rC_partNodes rC_weights rC_weightSums rC_toldWorths rC_steps rC_below rC_above rC_unsureWords rC_unsureWorths), (arI rC_kind kC_kind 18 fC_kind), (arI rC_parts kC_parts 18 fC_parts), (arI rC_partNodes kC_partNodes 72 fC_partNodes), (arI rC_weights kC_weights 72 fC_weights), (arI rC_weightSums kC_weightSums 18 fC_weightSums)] → va_S A s.heap H locs → lv_has ls 8 [(5, .int z_801), (4, .int z_802), (3, .int x_800), (0, .ref oL), (1, .ref oC), (2, .int p0)] → W p l e (headSpec (Cond.code yX4_joined cX4_joined 8 (some .int) :: wG) ({ frames := 1, cells := 0, slots := 0, locals := 21 })).room s m ([.ref oL, .ref oC, .int p0] : List Value).toArray below meth c H locs 0 0 (MQ below (va_Qi (fun (r : Int32) (_ : Nat) => (True ∧ True) ∧ PX4_joined fL_values fC_kind fC_parts fC_partNodes fC_weights fC_weightSums p0 = r) (fun (_ : Nat) (t : State) => Bw dC dI A [(oc4 oL rL_values rL_supposed), (arI rL_values kL_values 18 fL_values), (oc1 oC iC_nodes iC_words iC_chances iC_unsures iC_slips iC_throneNode iC_saidWorth iC_unit rC_kind rC_parts rC_partNodes rC_weights rC_weightSums rC_toldWorths rC_steps rC_below rC_above rC_unsureWords rC_unsureWorths), (arI rC_kind kC_kind 18 fC_kind), (arI rC_parts kC_parts 18 fC_parts), (arI rC_partNodes kC_partNodes 72 fC_partNodes), (arI rC_weights kC_weights 72 fC_weights), (arI rC_weightSums kC_weightSums 18 fC_weightSums)] [(kL_values, .int), (kC_kind, .int), (kC_parts, .int), (kC_partNodes, .int), (kC_weights, .int), (kC_weightSums, .int)] t) A) ([.ref oL, .ref oC, .int p0] : List Value).toArray s 0 0 A) (F0 m 13 ls []) := by
    intro n_803
    induction n_803 with
    | zero => intro z_801 z_802 H locs ls hi0_n_803 hm; exact absurd hm (Nat.not_lt_zero _)
    | succ n_803 ih_n_803 =>
      intro z_801 z_802 H locs ls hi0_n_803 hm_n_803 hG hP hD hS hl
      have hG := hG.trans (HX4_joined_0_eq _ _ _ _ _ _ _ _ _ _)
      have rg_z_801 := fb_rng z_801
      have rg_z_802 := fb_rng z_802
      refine lv_iload hx hb dX4_joined_13 (lv_at hl 0 rfl) ?_
      refine lv_aload_n hx hb dX4_joined_15 rfl (lv_at hl 4 rfl) ?_
      refine va_get (D := (dC, dI)) (ci := 1) (v := .ref rC_parts) (C := RX1) (T := TX1) (N := 19) hx hb hts inX1 hown hK hP 2 rfl rfl 9 (by decide) (hts _ wd_623) (fun _ h9 => h9) rfl dX4_joined_16 ?_
      refine lv_iload_n hx hb dX4_joined_19 rfl (lv_at hl 5 rfl) ?_
      refine va_iald hx hb hK hP 4 2 rfl rfl (ti_in rfl hp0.1 (om_b3735a34 hp0.2)) dX4_joined_20 ?_
      refine lv_topi (fun x_804 ex_804 => ?_)
      have hG := hG.trans (lt_eq ex_804)
      have rg_x_804 := fb_rng x_804
      have kx_804 : (fC_parts p0.toNatClampNeg).toInt = x_804.toInt := by rw [ex_804]
      have ux_804 := a_fC_parts p0.toNatClampNeg (cl_lt rfl hp0.1 (om_b3735a34 hp0.2))
      rw [show fC_parts p0.toNatClampNeg = x_804 from ex_804.symm] at ux_804
      refine lv_icmp_ge (tgt := 106) hx hb dX4_joined_21 (by decide) (fun c_805 => ?_) (fun c_805 => ?_)
      · skip
        have hG := hG.trans (if_pos c_805)
        have gc_805 := ti_le c_805 rfl rfl
        refine lv_iload_n hx hb dX4_joined_106 rfl (lv_at hl 2 rfl) ?_
        refine lv_iconst (v := 3) hx hb dX4_joined_107 (by decide) ?_
        refine lv_icmp_ne (tgt := 125) hx hb dX4_joined_108 (by decide) (fun c_806 => ?_) (fun c_806 => ?_)
        · skip
          have hG := hG.trans (if_neg c_806)
          have gc_806 := ti_ne c_806 rfl kc_3
          refine lv_iload hx hb dX4_joined_125 (lv_at hl 1 rfl) ?_
          exact wq_i hx hb hr 0 ⟨⟨trivial, trivial⟩, hG⟩ (fun t ht hW => Bw.to hP hD hK ht hW) hS dX4_joined_127 hlocks
        · skip
          have hG := hG.trans (if_pos c_806)
          have gc_806 := ti_eq c_806 rfl kc_3
          refine lv_iload hx hb dX4_joined_111 (lv_at hl 1 rfl) ?_
          refine lv_aload_n hx hb dX4_joined_113 rfl (lv_at hl 4 rfl) ?_
          refine va_get (D := (dC, dI)) (ci := 1) (v := .ref rC_weightSums) (C := RX1) (T := TX1) (N := 19) hx hb hts inX1 hown hK hP 2 rfl rfl 12 (by decide) (hts _ wd_626) (fun _ h9 => h9) rfl dX4_joined_114 ?_
          refine lv_iload_n hx hb dX4_joined_117 rfl (lv_at hl 5 rfl) ?_
          refine va_iald hx hb hK hP 7 5 rfl rfl (ti_in rfl hp0.1 (om_b3735a34 hp0.2)) dX4_joined_118 ?_
          refine lv_topi (fun x_807 ex_807 => ?_)
          have hG := hG.trans (lt_eq ex_807)
          have rg_x_807 := fb_rng x_807
          have kx_807 : (fC_weightSums p0.toNatClampNeg).toInt = x_807.toInt := by rw [ex_807]
          have hFc : ∀ q, va_A [] _ q → A q := fun q h => hA q (Nat.le_trans hS.1 (va_nilA h))
          refine va_calli (va_runSN (As := [.int z_802, .int x_807]) (rest := []) ⟨hx, hb, hml, hown, hts⟩ (tX6_wholeOf l dC dI _ z_802 x_807 ) ⟨va_cnB 2 hts (wd_c wd_628) rfl rfl rfl (hE.2.2.2.1 _ (List.mem_of_getElem? (i := 4) rfl)) (hts _ wd_2) (by decide +kernel) ⟨Nat.le_of_ble_eq_true rfl, Nat.le_of_ble_eq_true rfl⟩, hts _ wd_627, trivial⟩ ⟨Pw.fb, fun U hU hW => Pn.to hK hE hS hA hU hW⟩ rfl rfl hl.1 rfl (lv_room (Nat.le_of_ble_eq_true rfl)) dX4_joined_119 ⟨Nat.le_of_ble_eq_true rfl, Nat.le_of_ble_eq_true rfl⟩) hS (fun q _ h => hFc q h) hFc (fun r u t H locs ht hvm hw hB hz1 hk1 hS => ?_)
          obtain ⟨hP, hD, hK⟩ := Bw.same ht hvm hP hD hK hk1 hFc
          clear hz1 hk1 hvm ht hB
          have hq9 := hw.2
          have hw := hw.1
          obtain ⟨x_808, rfl⟩ : ∃ z, z = r := ⟨_, rfl⟩
          have hq_x_808 := hq9
          have hG := hG.trans (lt_eq hq_x_808.symm)
          have rg_x_808 := fb_rng x_808
          refine lv_goto (tgt := 127) hx hb dX4_joined_122 (by decide) ?_
          exact wq_i hx hb hr 0 ⟨⟨trivial, trivial⟩, hG⟩ (fun t ht hW => Bw.to hP hD hK ht hW) hS dX4_joined_127 hlocks
      · skip
        have hG := hG.trans (if_neg c_805)
        have gc_805 := ti_nle c_805 rfl rfl
        refine lv_iload_n hx hb dX4_joined_24 rfl (lv_at hl 5 rfl) ?_
        refine lv_iconst (v := 4) hx hb dX4_joined_25 (by decide) ?_
        refine lv_imul hx hb dX4_joined_26 ?_
        refine lv_topi (fun x_809 ex_809 => ?_)
        have hG := hG.trans (lt_eq ex_809)
        have vx_809 : x_809.toInt = 4 * p0.toInt := by have q := ti_mul ex_809 rfl kc_4 (by omega) (by omega); omega
        refine lv_iload hx hb dX4_joined_27 (lv_at hl 0 rfl) ?_
        refine lv_iadd hx hb dX4_joined_29 ?_
        refine lv_topi (fun x_810 ex_810 => ?_)
        have hG := hG.trans (lt_eq ex_810)
        have vx_810 : x_810.toInt = 4 * p0.toInt + z_801.toInt := om_5d0caf0f (ti_add ex_810 vx_809 rfl (om_056a216f hp0.1 hi0_n_803.1) (om_be3e613d hp0.2 ux_804.2 gc_805))
        refine lv_istore (lv' := [(6, .int x_810), (5, .int z_801), (4, .int z_802), (3, .int x_800), (0, .ref oL), (1, .ref oC), (2, .int p0)]) hx hb dX4_joined_30 hl (by decide) rfl (fun ls hl => ?_)
        refine lv_aload_n hx hb dX4_joined_32 rfl (lv_at hl 4 rfl) ?_
        refine va_get (D := (dC, dI)) (ci := 4) (v := .ref rL_values) (C := RX4) (T := TX4) (N := 2) hx hb hts inX4 hown hK hP 0 rfl rfl 0 (by decide) (hts _ wd_146) (fun _ h9 => h9) rfl dX4_joined_33 ?_
        refine lv_aload_n hx hb dX4_joined_36 rfl (lv_at hl 5 rfl) ?_
        refine va_get (D := (dC, dI)) (ci := 1) (v := .ref rC_partNodes) (C := RX1) (T := TX1) (N := 19) hx hb hts inX1 hown hK hP 2 rfl rfl 10 (by decide) (hts _ wd_624) (fun _ h9 => h9) rfl dX4_joined_37 ?_
        refine lv_iload hx hb dX4_joined_40 (lv_at hl 0 rfl) ?_
        refine va_iald hx hb hK hP 5 3 rfl rfl (ti_in vx_810 (om_fc2812d4 hp0.1 hi0_n_803.1) (om_b7e30450 hp0.2 ux_804.2 gc_805)) dX4_joined_42 ?_
        refine lv_topi (fun x_811 ex_811 => ?_)
        have hG := hG.trans (lt_eq ex_811)
        have rg_x_811 := fb_rng x_811
        have kx_811 : (fC_partNodes x_810.toNatClampNeg).toInt = x_811.toInt := by rw [ex_811]
        have ux_811 := a_fC_partNodes x_810.toNatClampNeg (cl_lt vx_810 (om_fc2812d4 hp0.1 hi0_n_803.1) (om_b7e30450 hp0.2 ux_804.2 gc_805))
        rw [show fC_partNodes x_810.toNatClampNeg = x_811 from ex_811.symm] at ux_811
        refine va_iald hx hb hK hP 1 0 rfl rfl (ti_in rfl ux_811.1 (om_b3735a34 ux_811.2)) dX4_joined_43 ?_
        refine lv_topi (fun x_812 ex_812 => ?_)
        have hG := hG.trans (lt_eq ex_812)
        have rg_x_812 := fb_rng x_812
        have kx_812 : (fL_values x_811.toNatClampNeg).toInt = x_812.toInt := by rw [ex_812]
        refine lv_istore (lv' := [(7, .int x_812), (6, .int x_810), (5, .int z_801), (4, .int z_802), (3, .int x_800), (0, .ref oL), (1, .ref oC), (2, .int p0)]) hx hb dX4_joined_44 hl (by decide) rfl (fun ls hl => ?_)
        refine lv_iload_n hx hb dX4_joined_46 rfl (lv_at hl 4 rfl) ?_
        refine lv_iconst (v := 3) hx hb dX4_joined_47 (by decide) ?_
        refine lv_icmp_ne (tgt := 69) hx hb dX4_joined_48 (by decide) (fun c_813 => ?_) (fun c_813 => ?_)
        · skip
          have hG := hG.trans (if_neg c_813)
          have gc_813 := ti_ne c_813 rfl kc_3
          refine lv_iload hx hb dX4_joined_69 (lv_at hl 2 rfl) ?_
          refine lv_if_eq (tgt := 96) hx hb dX4_joined_71 (by decide) (fun c_814 => ?_) (fun c_814 => ?_)
          · skip
            have hG := hG.trans (if_pos c_814)
            have gc_814 := ti_eq c_814 rfl kc_0
            refine lv_iload hx hb dX4_joined_96 (lv_at hl 0 rfl) ?_
            refine lv_istore (lv' := [(4, .int x_812), (7, .int x_812), (6, .int x_810), (5, .int z_801), (3, .int x_800), (0, .ref oL), (1, .ref oC), (2, .int p0)]) hx hb dX4_joined_98 hl (by decide) rfl (fun ls hl => ?_)
            obtain ⟨x_815, ex_815⟩ : ∃ z : Int32, z = z_801 + Int32.ofInt 1 := ⟨_, rfl⟩
            have hG := hG.trans (lt_eq ex_815)
            have vx_815 : x_815.toInt = z_801.toInt + 1 := ti_add (y := 1) ex_815 rfl kc_1 (om_4e4fce7e hi0_n_803.1) (om_f4fb5b9a gc_814)
            refine lv_iinc (v := x_815) (lv' := [(5, .int x_815), (4, .int x_812), (7, .int x_812), (6, .int x_810), (3, .int x_800), (0, .ref oL), (1, .ref oC), (2, .int p0)]) hx hb dX4_joined_100 hl (k := 3) rfl ex_815.symm (by decide) rfl (fun ls hl => ?_)
            refine lv_goto (tgt := 13) hx hb dX4_joined_103 (by decide) ?_
            exact ih_n_803 x_815 x_812 _ _ _  ⟨(om_83b90de5 hi0_n_803.1 vx_815), (om_b8edbab1 gc_814 vx_815)⟩ (ms_lt hm_n_803 (om_b9393183 vx_815) (om_ec9d7b39 gc_814)) hG hP hD hS (lv_sub hl [0, 1, 4, 5, 6, 7] rfl)
          · skip
            have hG := hG.trans (if_neg c_814)
            have gc_814 := ti_ne c_814 rfl kc_0
            refine lv_iload_n hx hb dX4_joined_74 rfl (lv_at hl 4 rfl) ?_
            refine lv_iconst (v := 1) hx hb dX4_joined_75 (by decide) ?_
            refine lv_icmp_ne (tgt := 89) hx hb dX4_joined_76 (by decide) (fun c_816 => ?_) (fun c_816 => ?_)
            · skip
              have hG := hG.trans (if_neg c_816)
              have gc_816 := ti_ne c_816 rfl kc_1
              refine lv_iload hx hb dX4_joined_89 (lv_at hl 0 rfl) ?_
              refine lv_iload hx hb dX4_joined_91 (lv_at hl 3 rfl) ?_
              refine lv_icmp_ge (tgt := 100) hx hb dX4_joined_93 (by decide) (fun c_817 => ?_) (fun c_817 => ?_)
              · skip
                have hG := hG.trans (if_pos c_817)
                have gc_817 := ti_le c_817 rfl rfl
                obtain ⟨x_818, ex_818⟩ : ∃ z : Int32, z = z_801 + Int32.ofInt 1 := ⟨_, rfl⟩
                have hG := hG.trans (lt_eq ex_818)
                have vx_818 : x_818.toInt = z_801.toInt + 1 := ti_add (y := 1) ex_818 rfl kc_1 (om_4e4fce7e hi0_n_803.1) (om_0ca29412 ux_804.2 gc_805)
                refine lv_iinc (v := x_818) (lv' := [(5, .int x_818), (7, .int x_812), (6, .int x_810), (4, .int z_802), (3, .int x_800), (0, .ref oL), (1, .ref oC), (2, .int p0)]) hx hb dX4_joined_100 hl (k := 2) rfl ex_818.symm (by decide) rfl (fun ls hl => ?_)
                refine lv_goto (tgt := 13) hx hb dX4_joined_103 (by decide) ?_
                exact ih_n_803 x_818 z_802 _ _ _  ⟨(om_83b90de5 hi0_n_803.1 vx_818), (om_008057e4 ux_804.2 gc_805 vx_818)⟩ (ms_lt hm_n_803 (om_b9393183 vx_818) (om_349eab4e ux_804.2 gc_805)) hG hP hD hS (lv_sub hl [0, 3, 4, 5, 6, 7] rfl)
              · skip
                have hG := hG.trans (if_neg c_817)
                have gc_817 := ti_nle c_817 rfl rfl
                refine lv_iload hx hb dX4_joined_96 (lv_at hl 0 rfl) ?_
                refine lv_istore (lv' := [(4, .int x_812), (7, .int x_812), (6, .int x_810), (5, .int z_801), (3, .int x_800), (0, .ref oL), (1, .ref oC), (2, .int p0)]) hx hb dX4_joined_98 hl (by decide) rfl (fun ls hl => ?_)
                obtain ⟨x_819, ex_819⟩ : ∃ z : Int32, z = z_801 + Int32.ofInt 1 := ⟨_, rfl⟩
                have hG := hG.trans (lt_eq ex_819)
                have vx_819 : x_819.toInt = z_801.toInt + 1 := ti_add (y := 1) ex_819 rfl kc_1 (om_4e4fce7e hi0_n_803.1) (om_0ca29412 ux_804.2 gc_805)
                refine lv_iinc (v := x_819) (lv' := [(5, .int x_819), (4, .int x_812), (7, .int x_812), (6, .int x_810), (3, .int x_800), (0, .ref oL), (1, .ref oC), (2, .int p0)]) hx hb dX4_joined_100 hl (k := 3) rfl ex_819.symm (by decide) rfl (fun ls hl => ?_)
                refine lv_goto (tgt := 13) hx hb dX4_joined_103 (by decide) ?_
                exact ih_n_803 x_819 x_812 _ _ _  ⟨(om_83b90de5 hi0_n_803.1 vx_819), (om_008057e4 ux_804.2 gc_805 vx_819)⟩ (ms_lt hm_n_803 (om_b9393183 vx_819) (om_349eab4e ux_804.2 gc_805)) hG hP hD hS (lv_sub hl [0, 1, 4, 5, 6, 7] rfl)
            · skip
              have hG := hG.trans (if_pos c_816)
              have gc_816 := ti_eq c_816 rfl kc_1
              refine lv_iload hx hb dX4_joined_79 (lv_at hl 0 rfl) ?_
              refine lv_iload hx hb dX4_joined_81 (lv_at hl 3 rfl) ?_
              refine lv_icmp_le (tgt := 100) hx hb dX4_joined_83 (by decide) (fun c_820 => ?_) (fun c_820 => ?_)
              · skip
                have hG := hG.trans (if_pos c_820)
                have gc_820 := ti_le c_820 rfl rfl
                obtain ⟨x_821, ex_821⟩ : ∃ z : Int32, z = z_801 + Int32.ofInt 1 := ⟨_, rfl⟩
                have hG := hG.trans (lt_eq ex_821)
                have vx_821 : x_821.toInt = z_801.toInt + 1 := ti_add (y := 1) ex_821 rfl kc_1 (om_4e4fce7e hi0_n_803.1) (om_0ca29412 ux_804.2 gc_805)
                refine lv_iinc (v := x_821) (lv' := [(5, .int x_821), (7, .int x_812), (6, .int x_810), (4, .int z_802), (3, .int x_800), (0, .ref oL), (1, .ref oC), (2, .int p0)]) hx hb dX4_joined_100 hl (k := 2) rfl ex_821.symm (by decide) rfl (fun ls hl => ?_)
                refine lv_goto (tgt := 13) hx hb dX4_joined_103 (by decide) ?_
                exact ih_n_803 x_821 z_802 _ _ _  ⟨(om_83b90de5 hi0_n_803.1 vx_821), (om_008057e4 ux_804.2 gc_805 vx_821)⟩ (ms_lt hm_n_803 (om_b9393183 vx_821) (om_349eab4e ux_804.2 gc_805)) hG hP hD hS (lv_sub hl [0, 3, 4, 5, 6, 7] rfl)
              · skip
                have hG := hG.trans (if_neg c_820)
                have gc_820 := ti_nle c_820 rfl rfl
                refine lv_goto (tgt := 96) hx hb dX4_joined_86 (by decide) ?_
                refine lv_iload hx hb dX4_joined_96 (lv_at hl 0 rfl) ?_
                refine lv_istore (lv' := [(4, .int x_812), (7, .int x_812), (6, .int x_810), (5, .int z_801), (3, .int x_800), (0, .ref oL), (1, .ref oC), (2, .int p0)]) hx hb dX4_joined_98 hl (by decide) rfl (fun ls hl => ?_)
                obtain ⟨x_822, ex_822⟩ : ∃ z : Int32, z = z_801 + Int32.ofInt 1 := ⟨_, rfl⟩
                have hG := hG.trans (lt_eq ex_822)
                have vx_822 : x_822.toInt = z_801.toInt + 1 := ti_add (y := 1) ex_822 rfl kc_1 (om_4e4fce7e hi0_n_803.1) (om_0ca29412 ux_804.2 gc_805)
                refine lv_iinc (v := x_822) (lv' := [(5, .int x_822), (4, .int x_812), (7, .int x_812), (6, .int x_810), (3, .int x_800), (0, .ref oL), (1, .ref oC), (2, .int p0)]) hx hb dX4_joined_100 hl (k := 3) rfl ex_822.symm (by decide) rfl (fun ls hl => ?_)
                refine lv_goto (tgt := 13) hx hb dX4_joined_103 (by decide) ?_
                exact ih_n_803 x_822 x_812 _ _ _  ⟨(om_83b90de5 hi0_n_803.1 vx_822), (om_008057e4 ux_804.2 gc_805 vx_822)⟩ (ms_lt hm_n_803 (om_b9393183 vx_822) (om_349eab4e ux_804.2 gc_805)) hG hP hD hS (lv_sub hl [0, 1, 4, 5, 6, 7] rfl)
        · skip
          have hG := hG.trans (if_pos c_813)
          have gc_813 := ti_eq c_813 rfl kc_3
          refine lv_iload hx hb dX4_joined_51 (lv_at hl 3 rfl) ?_
          refine lv_iload hx hb dX4_joined_53 (lv_at hl 0 rfl) ?_
          refine lv_aload_n hx hb dX4_joined_55 rfl (lv_at hl 6 rfl) ?_
          refine va_get (D := (dC, dI)) (ci := 1) (v := .ref rC_weights) (C := RX1) (T := TX1) (N := 19) hx hb hts inX1 hown hK hP 2 rfl rfl 11 (by decide) (hts _ wd_625) (fun _ h9 => h9) rfl dX4_joined_56 ?_
          refine lv_iload hx hb dX4_joined_59 (lv_at hl 1 rfl) ?_
          refine va_iald hx hb hK hP 6 4 rfl rfl (ti_in vx_810 (om_fc2812d4 hp0.1 hi0_n_803.1) (om_b7e30450 hp0.2 ux_804.2 gc_805)) dX4_joined_61 ?_
          refine lv_topi (fun x_823 ex_823 => ?_)
          have hG := hG.trans (lt_eq ex_823)
          have rg_x_823 := fb_rng x_823
          have kx_823 : (fC_weights x_810.toNatClampNeg).toInt = x_823.toInt := by rw [ex_823]
          refine lv_imul hx hb dX4_joined_62 ?_
          refine lv_topi (fun x_824 ex_824 => ?_)
          have hG := hG.trans (lt_eq ex_824)
          have rg_x_824 := fb_rng x_824
          refine lv_iadd hx hb dX4_joined_63 ?_
          refine lv_topi (fun x_825 ex_825 => ?_)
          have hG := hG.trans (lt_eq ex_825)
          have rg_x_825 := fb_rng x_825
          refine lv_istore (lv' := [(4, .int x_825), (7, .int x_812), (6, .int x_810), (5, .int z_801), (3, .int x_800), (0, .ref oL), (1, .ref oC), (2, .int p0)]) hx hb dX4_joined_64 hl (by decide) rfl (fun ls hl => ?_)
          refine lv_goto (tgt := 100) hx hb dX4_joined_66 (by decide) ?_
          obtain ⟨x_826, ex_826⟩ : ∃ z : Int32, z = z_801 + Int32.ofInt 1 := ⟨_, rfl⟩
          have hG := hG.trans (lt_eq ex_826)
          have vx_826 : x_826.toInt = z_801.toInt + 1 := ti_add (y := 1) ex_826 rfl kc_1 (om_4e4fce7e hi0_n_803.1) (om_0ca29412 ux_804.2 gc_805)
          refine lv_iinc (v := x_826) (lv' := [(5, .int x_826), (4, .int x_825), (7, .int x_812), (6, .int x_810), (3, .int x_800), (0, .ref oL), (1, .ref oC), (2, .int p0)]) hx hb dX4_joined_100 hl (k := 3) rfl ex_826.symm (by decide) rfl (fun ls hl => ?_)
          refine lv_goto (tgt := 13) hx hb dX4_joined_103 (by decide) ?_
          exact ih_n_803 x_826 x_825 _ _ _  ⟨(om_83b90de5 hi0_n_803.1 vx_826), (om_008057e4 ux_804.2 gc_805 vx_826)⟩ (ms_lt hm_n_803 (om_b9393183 vx_826) (om_349eab4e ux_804.2 gc_805)) hG hP hD hS (lv_sub hl [0, 1, 4, 5, 6, 7] rfl)
  exact key_n_803 (((2147483647 - (0 : Int32).toInt).toNat) + 1) 0 0 _ _ _  ⟨(om_b1de7dbe kc_0), (om_daf17c64 kc_0)⟩ (Nat.lt_add_one _) hG hP hD hS hl
set_option maxHeartbeats 4000000 in
set_option maxRecDepth 100000 in
theorem tX4_weighAll (l : Launch) (dC : Nat → ClassId) (dI : Nat → Nat → Nat) (sz : Nat) (oL : Nat) (rL_values : Nat) (fL_values : Nat → Int32) (kL_values : ClassId) (rL_supposed : Nat) (oC : Nat) (iC_nodes : Int32) (iC_words : Int32) (iC_chances : Int32) (iC_unsures : Int32) (iC_slips : Int32) (iC_throneNode : Int32) (iC_saidWorth : Int32) (iC_unit : Int32) (rC_kind : Nat) (fC_kind : Nat → Int32) (kC_kind : ClassId) (rC_parts : Nat) (fC_parts : Nat → Int32) (kC_parts : ClassId) (rC_partNodes : Nat) (fC_partNodes : Nat → Int32) (kC_partNodes : ClassId) (rC_weights : Nat) (fC_weights : Nat → Int32) (kC_weights : ClassId) (rC_weightSums : Nat) (fC_weightSums : Nat → Int32) (kC_weightSums : ClassId) (rC_toldWorths : Nat) (rC_steps : Nat) (rC_below : Nat) (rC_above : Nat) (rC_unsureWords : Nat) (rC_unsureWorths : Nat) (rW : Nat) (fW : Nat → Int32) (kW : ClassId) (b_iC_nodes : 0 ≤ iC_nodes.toInt ∧ iC_nodes.toInt ≤ 18) (b_iC_unsures : 0 ≤ iC_unsures.toInt ∧ iC_unsures.toInt ≤ 4) (b_iC_throneNode : (-1) ≤ iC_throneNode.toInt ∧ iC_throneNode.toInt ≤ 17) (a_fC_parts : ∀ j : Nat, j < 18 → 0 ≤ (fC_parts j).toInt ∧ (fC_parts j).toInt ≤ 4) (a_fC_partNodes : ∀ j : Nat, j < 72 → 0 ≤ (fC_partNodes j).toInt ∧ (fC_partNodes j).toInt ≤ 17)  : Met l yX4_weighAll (Cond.code yX4_weighAll cX4_weighAll 4 (some .int) :: wG) ({ frames := 2, cells := 0, slots := 0, locals := 48 }) (va_Pc [.ref oL, .ref oC, .ref rW] (Pw dC dI sz [(oc4 oL rL_values rL_supposed), (arI rL_values kL_values 18 fL_values), (oc1 oC iC_nodes iC_words iC_chances iC_unsures iC_slips iC_throneNode iC_saidWorth iC_unit rC_kind rC_parts rC_partNodes rC_weights rC_weightSums rC_toldWorths rC_steps rC_below rC_above rC_unsureWords rC_unsureWorths), (arI rC_kind kC_kind 18 fC_kind), (arI rC_parts kC_parts 18 fC_parts), (arI rC_partNodes kC_partNodes 72 fC_partNodes), (arI rC_weights kC_weights 72 fC_weights), (arI rC_weightSums kC_weightSums 18 fC_weightSums), (arI rW kW 18 fW)] [(kL_values, .int), (kC_kind, .int), (kC_parts, .int), (kC_partNodes, .int), (kC_weights, .int), (kC_weightSums, .int), (kW, .int)])) (va_Qi (fun (r : Int32) (u : Nat) => (True ∧ True) ∧ r = Int32.ofNat u) (fun (u : Nat) (t : State) => ∃ (nfL_values : Nat → Int32), (PX4_weighAll fL_values iC_nodes iC_throneNode iC_unit fC_kind fC_parts fC_partNodes fC_weights fC_weightSums fW = (Int32.ofNat u, nfL_values)) ∧ Bw dC dI (va_A [(oc4 oL rL_values rL_supposed), (arI rL_values kL_values 18 fL_values), (oc1 oC iC_nodes iC_words iC_chances iC_unsures iC_slips iC_throneNode iC_saidWorth iC_unit rC_kind rC_parts rC_partNodes rC_weights rC_weightSums rC_toldWorths rC_steps rC_below rC_above rC_unsureWords rC_unsureWorths), (arI rC_kind kC_kind 18 fC_kind), (arI rC_parts kC_parts 18 fC_parts), (arI rC_partNodes kC_partNodes 72 fC_partNodes), (arI rC_weights kC_weights 72 fC_weights), (arI rC_weightSums kC_weightSums 18 fC_weightSums), (arI rW kW 18 fW)] sz) [(oc4 oL rL_values rL_supposed), (arI rL_values kL_values 18 nfL_values), (oc1 oC iC_nodes iC_words iC_chances iC_unsures iC_slips iC_throneNode iC_saidWorth iC_unit rC_kind rC_parts rC_partNodes rC_weights rC_weightSums rC_toldWorths rC_steps rC_below rC_above rC_unsureWords rC_unsureWorths), (arI rC_kind kC_kind 18 fC_kind), (arI rC_parts kC_parts 18 fC_parts), (arI rC_partNodes kC_partNodes 72 fC_partNodes), (arI rC_weights kC_weights 72 fC_weights), (arI rC_weightSums kC_weightSums 18 fC_weightSums), (arI rW kW 18 fW)] [(kL_values, .int), (kC_kind, .int), (kC_parts, .int), (kC_partNodes, .int), (kC_weights, .int), (kC_weightSums, .int), (kW, .int)] t) (va_A [(oc4 oL rL_values rL_supposed), (arI rL_values kL_values 18 fL_values), (oc1 oC iC_nodes iC_words iC_chances iC_unsures iC_slips iC_throneNode iC_saidWorth iC_unit rC_kind rC_parts rC_partNodes rC_weights rC_weightSums rC_toldWorths rC_steps rC_below rC_above rC_unsureWords rC_unsureWorths), (arI rC_kind kC_kind 18 fC_kind), (arI rC_parts kC_parts 18 fC_parts), (arI rC_partNodes kC_partNodes 72 fC_partNodes), (arI rC_weights kC_weights 72 fC_weights), (arI rC_weightSums kC_weightSums 18 fC_weightSums), (arI rW kW 18 fW)] sz)) 0 0 (va_A [(oc4 oL rL_values rL_supposed), (arI rL_values kL_values 18 fL_values), (oc1 oC iC_nodes iC_words iC_chances iC_unsures iC_slips iC_throneNode iC_saidWorth iC_unit rC_kind rC_parts rC_partNodes rC_weights rC_weightSums rC_toldWorths rC_steps rC_below rC_above rC_unsureWords rC_unsureWorths), (arI rC_kind kC_kind 18 fC_kind), (arI rC_parts kC_parts 18 fC_parts), (arI rC_partNodes kC_partNodes 72 fC_partNodes), (arI rC_weights kC_weights 72 fC_weights), (arI rC_weightSums kC_weightSums 18 fC_weightSums), (arI rW kW 18 fW)] sz) := by
  refine Met.ofW (cc := cX4_weighAll) (maxL := 4) (ret := (some .int)) pnX4 rfl ?_
  intro p e s m args below meth c s₁ B hml hv
  obtain ⟨rfl, hsz, hP, hK, hD0, hE⟩ := hv
  have hx := B.exec
  have hb := B.bytes
  have hr := B.returns
  have hts : ∀ w ∈ wG, w.before ([.ref oL, .ref oC, .ref rW] : List Value).toArray s = true := fun w h => atoms_spec (ws := Cond.code yX4_weighAll cX4_weighAll 4 (some .int) :: wG) B.pre w (List.mem_cons_of_mem _ h)
  have hown : s.vm.findClass RX4 = some m.cls := own_of B.named rfl
  have hlocks := B.notSynchronized
  subst hsz
  have hD := hD0.self (sz := s.heap.size)
  generalize hAe : va_A [(oc4 oL rL_values rL_supposed), (arI rL_values kL_values 18 fL_values), (oc1 oC iC_nodes iC_words iC_chances iC_unsures iC_slips iC_throneNode iC_saidWorth iC_unit rC_kind rC_parts rC_partNodes rC_weights rC_weightSums rC_toldWorths rC_steps rC_below rC_above rC_unsureWords rC_unsureWorths), (arI rC_kind kC_kind 18 fC_kind), (arI rC_parts kC_parts 18 fC_parts), (arI rC_partNodes kC_partNodes 72 fC_partNodes), (arI rC_weights kC_weights 72 fC_weights), (arI rC_weightSums kC_weightSums 18 fC_weightSums), (arI rW kW 18 fW)] s.heap.size = A at hD hE ⊢
  have hA : ∀ q : Nat, s.heap.size ≤ q → A q := fun q h => by rw [← hAe]; exact Or.inr h
  have hS : va_S A s.heap s.heap [] := va_S.rf
  have hl := lv_entry ([.ref oL, .ref oC, .ref rW]) (n := 4) (Nat.le_of_ble_eq_true rfl)
  rw [lg_entry_eq]
  generalize (lg_sl ([.ref oL, .ref oC, .ref rW]) ++ List.replicate (4 - (lg_sl ([.ref oL, .ref oC, .ref rW])).length) Slot.unset).toArray = ls at hl ⊢
  have hl : lv_has ls 4 [(0, .ref oL), (1, .ref oC), (2, .ref rW)] := hl
  have hG := PX4_weighAll_eq fL_values iC_nodes iC_throneNode iC_unit fC_kind fC_parts fC_partNodes fC_weights fC_weightSums fW
  refine lv_iconst (v := 0) hx hb dX4_weighAll_0 (by decide) ?_
  refine lv_istore_n (lv' := [(3, .int 0), (0, .ref oL), (1, .ref oC), (2, .ref rW)]) hx hb dX4_weighAll_1 rfl hl (by decide) rfl (fun ls hl => ?_)
  have hl := lv_sub hl (l' := [(3, .int 0), (0, .ref oL), (1, .ref oC), (2, .ref rW)]) [0, 1, 2, 3] rfl
  have key_n_852 : ∀ (n_852 : Nat) (z_850 : Int32) (f_851 : Nat → Int32) (H : Heap) (locs : List Loc) (ls : Array Slot), (0 ≤ z_850.toInt ∧ z_850.toInt ≤ 2147483647) → (2147483647 - z_850.toInt).toNat < n_852 → (PX4_weighAll fL_values iC_nodes iC_throneNode iC_unit fC_kind fC_parts fC_partNodes fC_weights fC_weightSums fW = HX4_weighAll_0 iC_nodes iC_throneNode iC_unit fC_kind fC_parts fC_partNodes fC_weights fC_weightSums fW n_852 z_850 f_851) → va_P (dC, dI) vwCl [(oc4 oL rL_values rL_supposed), (arI rL_values kL_values 18 f_851), (oc1 oC iC_nodes iC_words iC_chances iC_unsures iC_slips iC_throneNode iC_saidWorth iC_unit rC_kind rC_parts rC_partNodes rC_weights rC_weightSums rC_toldWorths rC_steps rC_below rC_above rC_unsureWords rC_unsureWorths), (arI rC_kind kC_kind 18 fC_kind), (arI rC_parts kC_parts 18 fC_parts), (arI rC_partNodes kC_partNodes 72 fC_partNodes), (arI rC_weights kC_weights 72 fC_weights), (arI rC_weightSums kC_weightSums 18 fC_weightSums), (arI rW kW 18 fW)] H → va_D A [(oc4 oL rL_values rL_supposed), (arI rL_values kL_values 18 f_851), (oc1 oC iC_nodes iC_words iC_chances iC_unsures iC_slips iC_throneNode iC_saidWorth iC_unit rC_kind rC_parts rC_partNodes rC_weights rC_weightSums rC_toldWorths rC_steps rC_below rC_above rC_unsureWords rC_unsureWorths), (arI rC_kind kC_kind 18 fC_kind), (arI rC_parts kC_parts 18 fC_parts), (arI rC_partNodes kC_partNodes 72 fC_partNodes), (arI rC_weights kC_weights 72 fC_weights), (arI rC_weightSums kC_weightSums 18 fC_weightSums), (arI rW kW 18 fW)] → va_S A s.heap H locs → lv_has ls 4 [(3, .int z_850), (0, .ref oL), (1, .ref oC), (2, .ref rW)] → W p l e (headSpec (Cond.code yX4_weighAll cX4_weighAll 4 (some .int) :: wG) ({ frames := 2, cells := 0, slots := 0, locals := 48 })).room s m ([.ref oL, .ref oC, .ref rW] : List Value).toArray below meth c H locs 0 0 (MQ below (va_Qi (fun (r : Int32) (u : Nat) => (True ∧ True) ∧ r = Int32.ofNat u) (fun (u : Nat) (t : State) => ∃ (nfL_values : Nat → Int32), (PX4_weighAll fL_values iC_nodes iC_throneNode iC_unit fC_kind fC_parts fC_partNodes fC_weights fC_weightSums fW = (Int32.ofNat u, nfL_values)) ∧ Bw dC dI A [(oc4 oL rL_values rL_supposed), (arI rL_values kL_values 18 nfL_values), (oc1 oC iC_nodes iC_words iC_chances iC_unsures iC_slips iC_throneNode iC_saidWorth iC_unit rC_kind rC_parts rC_partNodes rC_weights rC_weightSums rC_toldWorths rC_steps rC_below rC_above rC_unsureWords rC_unsureWorths), (arI rC_kind kC_kind 18 fC_kind), (arI rC_parts kC_parts 18 fC_parts), (arI rC_partNodes kC_partNodes 72 fC_partNodes), (arI rC_weights kC_weights 72 fC_weights), (arI rC_weightSums kC_weightSums 18 fC_weightSums), (arI rW kW 18 fW)] [(kL_values, .int), (kC_kind, .int), (kC_parts, .int), (kC_partNodes, .int), (kC_weights, .int), (kC_weightSums, .int), (kW, .int)] t) A) ([.ref oL, .ref oC, .ref rW] : List Value).toArray s 0 0 A) (F0 m 2 ls []) := by
    intro n_852
    induction n_852 with
    | zero => intro z_850 f_851 H locs ls hi0_n_852 hm; exact absurd hm (Nat.not_lt_zero _)
    | succ n_852 ih_n_852 =>
      intro z_850 f_851 H locs ls hi0_n_852 hm_n_852 hG hP hD hS hl
      have hG := hG.trans (HX4_weighAll_0_eq _ _ _ _ _ _ _ _ _ _ _ _)
      have rg_z_850 := fb_rng z_850
      refine lv_iload_n hx hb dX4_weighAll_2 rfl (lv_at hl 0 rfl) ?_
      refine lv_aload_n hx hb dX4_weighAll_3 rfl (lv_at hl 2 rfl) ?_
      refine va_get (D := (dC, dI)) (ci := 1) (v := .int iC_nodes) (C := RX1) (T := TX1) (N := 19) hx hb hts inX1 hown hK hP 2 rfl rfl 0 (by decide) (hts _ wd_616) (fun _ h9 => h9) rfl dX4_weighAll_4 ?_
      have rg_iC_nodes := fb_rng iC_nodes
      refine lv_icmp_ge (tgt := 48) hx hb dX4_weighAll_7 (by decide) (fun c_853 => ?_) (fun c_853 => ?_)
      · skip
        have hG := hG.trans (if_pos c_853)
        have gc_853 := ti_le c_853 rfl rfl
        refine lv_aload_n hx hb dX4_weighAll_48 rfl (lv_at hl 1 rfl) ?_
        refine lv_aload_n hx hb dX4_weighAll_49 rfl (lv_at hl 2 rfl) ?_
        have hMs := ml_of hD [true, true, true, false, false, false, false, false, false] (wc := [(oc4 oL rL_values rL_supposed), (arI rL_values kL_values 18 f_851), (oc1 oC iC_nodes iC_words iC_chances iC_unsures iC_slips iC_throneNode iC_saidWorth iC_unit rC_kind rC_parts rC_partNodes rC_weights rC_weightSums rC_toldWorths rC_steps rC_below rC_above rC_unsureWords rC_unsureWorths)]) rfl
        have hFc := va_freeM hD hS hA _ hMs
        refine va_calli (va_runV (As := [.ref oC]) (rest := []) ⟨hx, hb, hml, hown, hts⟩ (tX4_throneValue l dC dI _ oL rL_values f_851 kL_values rL_supposed oC iC_nodes iC_words iC_chances iC_unsures iC_slips iC_throneNode iC_saidWorth iC_unit rC_kind rC_parts rC_partNodes rC_weights rC_weightSums rC_toldWorths rC_steps rC_below rC_above rC_unsureWords rC_unsureWorths b_iC_nodes b_iC_unsures b_iC_throneNode) (cwV 1 hts (wd_V wd_629 wd_630 wd_631 wd_37 (wd_c wd_632)) rfl rfl rfl dv_yX4_throneValue_1 ⟨Nat.le_of_ble_eq_true rfl, Nat.le_of_ble_eq_true rfl⟩) ⟨Pw.fb, recvX4 hK hP (q0 := 0) rfl, fun U hU hW => Pw.to (hP.ms _ hMs) (hD.ms _ hMs) (hK.ms [true, false, false, false, false, false, false] rfl) hE hS hFc hU hW⟩ rfl rfl hl.1 rfl (lv_room (Nat.le_of_ble_eq_true rfl)) dX4_weighAll_50 ⟨Nat.le_of_ble_eq_true rfl, Nat.le_of_ble_eq_true rfl⟩) hS (fun q _ h => hFc q h) hFc (fun r u t H locs ht hvm hw hB hz1 hk1 hS => ?_)
        have hru9 := hw.2
        have hw := hw.1
        obtain ⟨hP, hD⟩ := Bw.goN (ws' := [(oc4 oL rL_values rL_supposed), (arI rL_values kL_values 18 f_851), (oc1 oC iC_nodes iC_words iC_chances iC_unsures iC_slips iC_throneNode iC_saidWorth iC_unit rC_kind rC_parts rC_partNodes rC_weights rC_weightSums rC_toldWorths rC_steps rC_below rC_above rC_unsureWords rC_unsureWorths), (arI rC_kind kC_kind 18 fC_kind), (arI rC_parts kC_parts 18 fC_parts), (arI rC_partNodes kC_partNodes 72 fC_partNodes), (arI rC_weights kC_weights 72 fC_weights), (arI rC_weightSums kC_weightSums 18 fC_weightSums), (arI rW kW 18 fW)]) hB rfl ht hP hD _ hMs hk1 hFc rfl
        clear hz1 hk1 hvm ht hB hMs
        obtain ⟨x_854, rfl⟩ : ∃ z, z = r := ⟨_, rfl⟩
        have hG := hG.trans (lt_eq hru9.symm)
        have rg_x_854 := fb_rng x_854
        exact wq_i hx hb hr (cI x_854) ⟨⟨trivial, trivial⟩, (cI_of x_854)⟩ (fun t ht hW => ⟨f_851, (cI_tup hG), Bw.to hP hD hK ht hW⟩) hS dX4_weighAll_53 hlocks
      · skip
        have hG := hG.trans (if_neg c_853)
        have gc_853 := ti_nle c_853 rfl rfl
        refine lv_aload_n hx hb dX4_weighAll_10 rfl (lv_at hl 1 rfl) ?_
        refine va_get (D := (dC, dI)) (ci := 4) (v := .ref rL_values) (C := RX4) (T := TX4) (N := 2) hx hb hts inX4 hown hK hP 0 rfl rfl 0 (by decide) (hts _ wd_146) (fun _ h9 => h9) rfl dX4_weighAll_11 ?_
        refine lv_iload_n hx hb dX4_weighAll_14 rfl (lv_at hl 0 rfl) ?_
        refine lv_aload_n hx hb dX4_weighAll_15 rfl (lv_at hl 2 rfl) ?_
        refine va_get (D := (dC, dI)) (ci := 1) (v := .ref rC_kind) (C := RX1) (T := TX1) (N := 19) hx hb hts inX1 hown hK hP 2 rfl rfl 8 (by decide) (hts _ wd_617) (fun _ h9 => h9) rfl dX4_weighAll_16 ?_
        refine lv_iload_n hx hb dX4_weighAll_19 rfl (lv_at hl 0 rfl) ?_
        refine va_iald hx hb hK hP 3 1 rfl rfl (ti_in rfl hi0_n_852.1 (om_97cd4a7c b_iC_nodes.2 gc_853)) dX4_weighAll_20 ?_
        refine lv_topi (fun x_855 ex_855 => ?_)
        have hG := hG.trans (lt_eq ex_855)
        have rg_x_855 := fb_rng x_855
        have kx_855 : (fC_kind z_850.toNatClampNeg).toInt = x_855.toInt := by rw [ex_855]
        refine lv_if_ne (tgt := 35) hx hb dX4_weighAll_21 (by decide) (fun c_856 => ?_) (fun c_856 => ?_)
        · skip
          have hG := hG.trans (if_neg c_856)
          have gc_856 := ti_ne c_856 rfl kc_0
          refine lv_aload_n hx hb dX4_weighAll_35 rfl (lv_at hl 1 rfl) ?_
          refine lv_aload_n hx hb dX4_weighAll_36 rfl (lv_at hl 2 rfl) ?_
          refine lv_iload_n hx hb dX4_weighAll_37 rfl (lv_at hl 0 rfl) ?_
          have hMs := ml_of hD [true, true, true, true, true, true, true, true, false] (wc := [(oc4 oL rL_values rL_supposed), (arI rL_values kL_values 18 f_851), (oc1 oC iC_nodes iC_words iC_chances iC_unsures iC_slips iC_throneNode iC_saidWorth iC_unit rC_kind rC_parts rC_partNodes rC_weights rC_weightSums rC_toldWorths rC_steps rC_below rC_above rC_unsureWords rC_unsureWorths), (arI rC_kind kC_kind 18 fC_kind), (arI rC_parts kC_parts 18 fC_parts), (arI rC_partNodes kC_partNodes 72 fC_partNodes), (arI rC_weights kC_weights 72 fC_weights), (arI rC_weightSums kC_weightSums 18 fC_weightSums)]) rfl
          have hFc := va_freeM hD hS hA _ hMs
          refine va_calli (va_runV (As := [.ref oC, .int z_850]) (rest := [.int z_850, .ref rL_values]) ⟨hx, hb, hml, hown, hts⟩ (tX4_joined l dC dI _ oL rL_values f_851 kL_values rL_supposed oC iC_nodes iC_words iC_chances iC_unsures iC_slips iC_throneNode iC_saidWorth iC_unit rC_kind fC_kind kC_kind rC_parts fC_parts kC_parts rC_partNodes fC_partNodes kC_partNodes rC_weights fC_weights kC_weights rC_weightSums fC_weightSums kC_weightSums rC_toldWorths rC_steps rC_below rC_above rC_unsureWords rC_unsureWorths z_850 b_iC_nodes b_iC_unsures b_iC_throneNode a_fC_parts a_fC_partNodes ⟨hi0_n_852.1, (om_525c5d3e b_iC_nodes.2 gc_853)⟩) (cwV 2 hts (wd_V wd_619 wd_620 wd_621 wd_37 (wd_c wd_622)) rfl rfl rfl dv_yX4_joined_2 ⟨Nat.le_of_ble_eq_true rfl, Nat.le_of_ble_eq_true rfl⟩) ⟨Pw.fb, recvX4 hK hP (q0 := 0) rfl, fun U hU hW => Pw.to (hP.ms _ hMs) (hD.ms _ hMs) (hK.ms [true, true, true, true, true, true, false] rfl) hE hS hFc hU hW⟩ rfl rfl hl.1 rfl (lv_room (Nat.le_of_ble_eq_true rfl)) dX4_weighAll_38 ⟨Nat.le_of_ble_eq_true rfl, Nat.le_of_ble_eq_true rfl⟩) hS (fun q _ h => hFc q h) hFc (fun r u t H locs ht hvm hw hB hz1 hk1 hS => ?_)
          have hru9 := hw.2
          have hw := hw.1
          obtain ⟨hP, hD⟩ := Bw.goN (ws' := [(oc4 oL rL_values rL_supposed), (arI rL_values kL_values 18 f_851), (oc1 oC iC_nodes iC_words iC_chances iC_unsures iC_slips iC_throneNode iC_saidWorth iC_unit rC_kind rC_parts rC_partNodes rC_weights rC_weightSums rC_toldWorths rC_steps rC_below rC_above rC_unsureWords rC_unsureWorths), (arI rC_kind kC_kind 18 fC_kind), (arI rC_parts kC_parts 18 fC_parts), (arI rC_partNodes kC_partNodes 72 fC_partNodes), (arI rC_weights kC_weights 72 fC_weights), (arI rC_weightSums kC_weightSums 18 fC_weightSums), (arI rW kW 18 fW)]) hB rfl ht hP hD _ hMs hk1 hFc rfl
          clear hz1 hk1 hvm ht hB hMs
          obtain ⟨x_857, rfl⟩ : ∃ z, z = r := ⟨_, rfl⟩
          have hG := hG.trans (lt_eq hru9.symm)
          have rg_x_857 := fb_rng x_857
          refine va_iast hx hb hK hP hD hS 1 0 rfl rfl (ti_in rfl hi0_n_852.1 (om_97cd4a7c b_iC_nodes.2 gc_853)) dX4_weighAll_41 (fun H locs hP hD hS => ?_)
          obtain ⟨f_859, ef_859⟩ : ∃ g : Nat → Int32, g = upd f_851 z_850.toNatClampNeg x_857 := ⟨_, rfl⟩
          rw [← ef_859] at hP hD
          have hG := hG.trans (lt_eq ef_859)
          obtain ⟨hP, hD⟩ := wl2 (ws' := [(oc4 oL rL_values rL_supposed), (arI rL_values kL_values 18 f_859), (oc1 oC iC_nodes iC_words iC_chances iC_unsures iC_slips iC_throneNode iC_saidWorth iC_unit rC_kind rC_parts rC_partNodes rC_weights rC_weightSums rC_toldWorths rC_steps rC_below rC_above rC_unsureWords rC_unsureWorths), (arI rC_kind kC_kind 18 fC_kind), (arI rC_parts kC_parts 18 fC_parts), (arI rC_partNodes kC_partNodes 72 fC_partNodes), (arI rC_weights kC_weights 72 fC_weights), (arI rC_weightSums kC_weightSums 18 fC_weightSums), (arI rW kW 18 fW)]) hP hD rfl
          obtain ⟨x_860, ex_860⟩ : ∃ z : Int32, z = z_850 + Int32.ofInt 1 := ⟨_, rfl⟩
          have hG := hG.trans (lt_eq ex_860)
          have vx_860 : x_860.toInt = z_850.toInt + 1 := ti_add (y := 1) ex_860 rfl kc_1 (om_4e4fce7e hi0_n_852.1) (om_a32d6481 b_iC_nodes.2 gc_853)
          refine lv_iinc (v := x_860) (lv' := [(3, .int x_860), (0, .ref oL), (1, .ref oC), (2, .ref rW)]) hx hb dX4_weighAll_42 hl (k := 0) rfl ex_860.symm (by decide) rfl (fun ls hl => ?_)
          refine lv_goto (tgt := 2) hx hb dX4_weighAll_45 (by decide) ?_
          exact ih_n_852 x_860 f_859 _ _ _  ⟨(om_83b90de5 hi0_n_852.1 vx_860), (om_ed8867da b_iC_nodes.2 gc_853 vx_860)⟩ (ms_lt hm_n_852 (om_b9393183 vx_860) (om_1d9fa7fb b_iC_nodes.2 gc_853)) hG hP hD hS (lv_sub hl [0, 1, 2, 3] rfl)
        · skip
          have hG := hG.trans (if_pos c_856)
          have gc_856 := ti_eq c_856 rfl kc_0
          refine lv_aload_n hx hb dX4_weighAll_24 rfl (lv_at hl 3 rfl) ?_
          refine lv_iload_n hx hb dX4_weighAll_25 rfl (lv_at hl 0 rfl) ?_
          refine va_iald hx hb hK hP 8 6 rfl rfl (ti_in rfl hi0_n_852.1 (om_97cd4a7c b_iC_nodes.2 gc_853)) dX4_weighAll_26 ?_
          refine lv_topi (fun x_861 ex_861 => ?_)
          have hG := hG.trans (lt_eq ex_861)
          have rg_x_861 := fb_rng x_861
          have kx_861 : (fW z_850.toNatClampNeg).toInt = x_861.toInt := by rw [ex_861]
          refine lv_aload_n hx hb dX4_weighAll_27 rfl (lv_at hl 2 rfl) ?_
          refine va_get (D := (dC, dI)) (ci := 1) (v := .int iC_unit) (C := RX1) (T := TX1) (N := 19) hx hb hts inX1 hown hK hP 2 rfl rfl 7 (by decide) (hts _ wd_618) (fun _ h9 => h9) rfl dX4_weighAll_28 ?_
          have rg_iC_unit := fb_rng iC_unit
          refine lv_imul hx hb dX4_weighAll_31 ?_
          refine lv_topi (fun x_862 ex_862 => ?_)
          have hG := hG.trans (lt_eq ex_862)
          have rg_x_862 := fb_rng x_862
          refine lv_goto (tgt := 41) hx hb dX4_weighAll_32 (by decide) ?_
          refine va_iast hx hb hK hP hD hS 1 0 rfl rfl (ti_in rfl hi0_n_852.1 (om_97cd4a7c b_iC_nodes.2 gc_853)) dX4_weighAll_41 (fun H locs hP hD hS => ?_)
          obtain ⟨f_864, ef_864⟩ : ∃ g : Nat → Int32, g = upd f_851 z_850.toNatClampNeg x_862 := ⟨_, rfl⟩
          rw [← ef_864] at hP hD
          have hG := hG.trans (lt_eq ef_864)
          obtain ⟨hP, hD⟩ := wl2 (ws' := [(oc4 oL rL_values rL_supposed), (arI rL_values kL_values 18 f_864), (oc1 oC iC_nodes iC_words iC_chances iC_unsures iC_slips iC_throneNode iC_saidWorth iC_unit rC_kind rC_parts rC_partNodes rC_weights rC_weightSums rC_toldWorths rC_steps rC_below rC_above rC_unsureWords rC_unsureWorths), (arI rC_kind kC_kind 18 fC_kind), (arI rC_parts kC_parts 18 fC_parts), (arI rC_partNodes kC_partNodes 72 fC_partNodes), (arI rC_weights kC_weights 72 fC_weights), (arI rC_weightSums kC_weightSums 18 fC_weightSums), (arI rW kW 18 fW)]) hP hD rfl
          obtain ⟨x_865, ex_865⟩ : ∃ z : Int32, z = z_850 + Int32.ofInt 1 := ⟨_, rfl⟩
          have hG := hG.trans (lt_eq ex_865)
          have vx_865 : x_865.toInt = z_850.toInt + 1 := ti_add (y := 1) ex_865 rfl kc_1 (om_4e4fce7e hi0_n_852.1) (om_a32d6481 b_iC_nodes.2 gc_853)
          refine lv_iinc (v := x_865) (lv' := [(3, .int x_865), (0, .ref oL), (1, .ref oC), (2, .ref rW)]) hx hb dX4_weighAll_42 hl (k := 0) rfl ex_865.symm (by decide) rfl (fun ls hl => ?_)
          refine lv_goto (tgt := 2) hx hb dX4_weighAll_45 (by decide) ?_
          exact ih_n_852 x_865 f_864 _ _ _  ⟨(om_83b90de5 hi0_n_852.1 vx_865), (om_ed8867da b_iC_nodes.2 gc_853 vx_865)⟩ (ms_lt hm_n_852 (om_b9393183 vx_865) (om_1d9fa7fb b_iC_nodes.2 gc_853)) hG hP hD hS (lv_sub hl [0, 1, 2, 3] rfl)
  exact key_n_852 (((2147483647 - (0 : Int32).toInt).toNat) + 1) 0 fL_values _ _ _  ⟨(om_b1de7dbe kc_0), (om_daf17c64 kc_0)⟩ (Nat.lt_add_one _) hG hP hD hS hl
set_option maxHeartbeats 4000000 in
set_option maxRecDepth 100000 in
theorem tX4_throneByWord (l : Launch) (dC : Nat → ClassId) (dI : Nat → Nat → Nat) (sz : Nat) (oL : Nat) (rL_values : Nat) (fL_values : Nat → Int32) (kL_values : ClassId) (rL_supposed : Nat) (fL_supposed : Nat → Int32) (kL_supposed : ClassId) (oC : Nat) (iC_nodes : Int32) (iC_words : Int32) (iC_chances : Int32) (iC_unsures : Int32) (iC_slips : Int32) (iC_throneNode : Int32) (iC_saidWorth : Int32) (iC_unit : Int32) (rC_kind : Nat) (fC_kind : Nat → Int32) (kC_kind : ClassId) (rC_parts : Nat) (fC_parts : Nat → Int32) (kC_parts : ClassId) (rC_partNodes : Nat) (fC_partNodes : Nat → Int32) (kC_partNodes : ClassId) (rC_weights : Nat) (fC_weights : Nat → Int32) (kC_weights : ClassId) (rC_weightSums : Nat) (fC_weightSums : Nat → Int32) (kC_weightSums : ClassId) (rC_toldWorths : Nat) (rC_steps : Nat) (rC_below : Nat) (rC_above : Nat) (rC_unsureWords : Nat) (rC_unsureWorths : Nat) (oS : Nat) (rS_worths : Nat) (fS_worths : Nat → Int32) (kS_worths : ClassId) (rS_order : Nat) (rS_left : Nat) (p0 : Int32) (p1 : Int32) (b_iC_nodes : 0 ≤ iC_nodes.toInt ∧ iC_nodes.toInt ≤ 18) (b_iC_unsures : 0 ≤ iC_unsures.toInt ∧ iC_unsures.toInt ≤ 4) (b_iC_throneNode : (-1) ≤ iC_throneNode.toInt ∧ iC_throneNode.toInt ≤ 17) (a_fC_parts : ∀ j : Nat, j < 18 → 0 ≤ (fC_parts j).toInt ∧ (fC_parts j).toInt ≤ 4) (a_fC_partNodes : ∀ j : Nat, j < 72 → 0 ≤ (fC_partNodes j).toInt ∧ (fC_partNodes j).toInt ≤ 17)  : Met l yX4_throneByWord (Cond.code yX4_throneByWord cX4_throneByWord 5 (some .int) :: wG) ({ frames := 3, cells := 0, slots := 0, locals := 71 }) (va_Pc [.ref oL, .ref oC, .ref oS, .int p0, .int p1] (Pw dC dI sz [(oc4 oL rL_values rL_supposed), (arI rL_values kL_values 18 fL_values), (arI rL_supposed kL_supposed 18 fL_supposed), (oc1 oC iC_nodes iC_words iC_chances iC_unsures iC_slips iC_throneNode iC_saidWorth iC_unit rC_kind rC_parts rC_partNodes rC_weights rC_weightSums rC_toldWorths rC_steps rC_below rC_above rC_unsureWords rC_unsureWorths), (arI rC_kind kC_kind 18 fC_kind), (arI rC_parts kC_parts 18 fC_parts), (arI rC_partNodes kC_partNodes 72 fC_partNodes), (arI rC_weights kC_weights 72 fC_weights), (arI rC_weightSums kC_weightSums 18 fC_weightSums), (oc5 oS rS_worths rS_order rS_left), (arI rS_worths kS_worths 18 fS_worths)] [(kL_values, .int), (kL_supposed, .int), (kC_kind, .int), (kC_parts, .int), (kC_partNodes, .int), (kC_weights, .int), (kC_weightSums, .int), (kS_worths, .int)])) (va_Qi (fun (r : Int32) (_ : Nat) => True ∧ True) (fun (_ : Nat) (t : State) => ∃ (nfL_values : Nat → Int32) (nfL_supposed : Nat → Int32), Bw dC dI (va_A [(oc4 oL rL_values rL_supposed), (arI rL_values kL_values 18 fL_values), (arI rL_supposed kL_supposed 18 fL_supposed), (oc1 oC iC_nodes iC_words iC_chances iC_unsures iC_slips iC_throneNode iC_saidWorth iC_unit rC_kind rC_parts rC_partNodes rC_weights rC_weightSums rC_toldWorths rC_steps rC_below rC_above rC_unsureWords rC_unsureWorths), (arI rC_kind kC_kind 18 fC_kind), (arI rC_parts kC_parts 18 fC_parts), (arI rC_partNodes kC_partNodes 72 fC_partNodes), (arI rC_weights kC_weights 72 fC_weights), (arI rC_weightSums kC_weightSums 18 fC_weightSums), (oc5 oS rS_worths rS_order rS_left), (arI rS_worths kS_worths 18 fS_worths)] sz) [(oc4 oL rL_values rL_supposed), (arI rL_values kL_values 18 nfL_values), (arI rL_supposed kL_supposed 18 nfL_supposed), (oc1 oC iC_nodes iC_words iC_chances iC_unsures iC_slips iC_throneNode iC_saidWorth iC_unit rC_kind rC_parts rC_partNodes rC_weights rC_weightSums rC_toldWorths rC_steps rC_below rC_above rC_unsureWords rC_unsureWorths), (arI rC_kind kC_kind 18 fC_kind), (arI rC_parts kC_parts 18 fC_parts), (arI rC_partNodes kC_partNodes 72 fC_partNodes), (arI rC_weights kC_weights 72 fC_weights), (arI rC_weightSums kC_weightSums 18 fC_weightSums), (oc5 oS rS_worths rS_order rS_left), (arI rS_worths kS_worths 18 fS_worths)] [(kL_values, .int), (kL_supposed, .int), (kC_kind, .int), (kC_parts, .int), (kC_partNodes, .int), (kC_weights, .int), (kC_weightSums, .int), (kS_worths, .int)] t) (va_A [(oc4 oL rL_values rL_supposed), (arI rL_values kL_values 18 fL_values), (arI rL_supposed kL_supposed 18 fL_supposed), (oc1 oC iC_nodes iC_words iC_chances iC_unsures iC_slips iC_throneNode iC_saidWorth iC_unit rC_kind rC_parts rC_partNodes rC_weights rC_weightSums rC_toldWorths rC_steps rC_below rC_above rC_unsureWords rC_unsureWorths), (arI rC_kind kC_kind 18 fC_kind), (arI rC_parts kC_parts 18 fC_parts), (arI rC_partNodes kC_partNodes 72 fC_partNodes), (arI rC_weights kC_weights 72 fC_weights), (arI rC_weightSums kC_weightSums 18 fC_weightSums), (oc5 oS rS_worths rS_order rS_left), (arI rS_worths kS_worths 18 fS_worths)] sz)) 0 0 (va_A [(oc4 oL rL_values rL_supposed), (arI rL_values kL_values 18 fL_values), (arI rL_supposed kL_supposed 18 fL_supposed), (oc1 oC iC_nodes iC_words iC_chances iC_unsures iC_slips iC_throneNode iC_saidWorth iC_unit rC_kind rC_parts rC_partNodes rC_weights rC_weightSums rC_toldWorths rC_steps rC_below rC_above rC_unsureWords rC_unsureWorths), (arI rC_kind kC_kind 18 fC_kind), (arI rC_parts kC_parts 18 fC_parts), (arI rC_partNodes kC_partNodes 72 fC_partNodes), (arI rC_weights kC_weights 72 fC_weights), (arI rC_weightSums kC_weightSums 18 fC_weightSums), (oc5 oS rS_worths rS_order rS_left), (arI rS_worths kS_worths 18 fS_worths)] sz) := by
  refine Met.ofW (cc := cX4_throneByWord) (maxL := 5) (ret := (some .int)) pnX4 rfl ?_
  intro p e s m args below meth c s₁ B hml hv
  obtain ⟨rfl, hsz, hP, hK, hD0, hE⟩ := hv
  have hx := B.exec
  have hb := B.bytes
  have hr := B.returns
  have hts : ∀ w ∈ wG, w.before ([.ref oL, .ref oC, .ref oS, .int p0, .int p1] : List Value).toArray s = true := fun w h => atoms_spec (ws := Cond.code yX4_throneByWord cX4_throneByWord 5 (some .int) :: wG) B.pre w (List.mem_cons_of_mem _ h)
  have hown : s.vm.findClass RX4 = some m.cls := own_of B.named rfl
  have hlocks := B.notSynchronized
  subst hsz
  have hD := hD0.self (sz := s.heap.size)
  generalize hAe : va_A [(oc4 oL rL_values rL_supposed), (arI rL_values kL_values 18 fL_values), (arI rL_supposed kL_supposed 18 fL_supposed), (oc1 oC iC_nodes iC_words iC_chances iC_unsures iC_slips iC_throneNode iC_saidWorth iC_unit rC_kind rC_parts rC_partNodes rC_weights rC_weightSums rC_toldWorths rC_steps rC_below rC_above rC_unsureWords rC_unsureWorths), (arI rC_kind kC_kind 18 fC_kind), (arI rC_parts kC_parts 18 fC_parts), (arI rC_partNodes kC_partNodes 72 fC_partNodes), (arI rC_weights kC_weights 72 fC_weights), (arI rC_weightSums kC_weightSums 18 fC_weightSums), (oc5 oS rS_worths rS_order rS_left), (arI rS_worths kS_worths 18 fS_worths)] s.heap.size = A at hD hE ⊢
  have hA : ∀ q : Nat, s.heap.size ≤ q → A q := fun q h => by rw [← hAe]; exact Or.inr h
  have hS : va_S A s.heap s.heap [] := va_S.rf
  have hl := lv_entry ([.ref oL, .ref oC, .ref oS, .int p0, .int p1]) (n := 5) (Nat.le_of_ble_eq_true rfl)
  rw [lg_entry_eq]
  generalize (lg_sl ([.ref oL, .ref oC, .ref oS, .int p0, .int p1]) ++ List.replicate (5 - (lg_sl ([.ref oL, .ref oC, .ref oS, .int p0, .int p1])).length) Slot.unset).toArray = ls at hl ⊢
  have hl : lv_has ls 5 [(0, .ref oL), (1, .ref oC), (2, .ref oS), (3, .int p0), (4, .int p1)] := hl
  refine lv_aload_n hx hb dX4_throneByWord_0 rfl (lv_at hl 2 rfl) ?_
  refine va_get (D := (dC, dI)) (ci := 5) (v := .ref rS_worths) (C := RX5) (T := TX5) (N := 3) hx hb hts inX5 hown hK hP 9 rfl rfl 0 (by decide) (hts _ wd_948) (fun _ h9 => h9) rfl dX4_throneByWord_1 ?_
  refine lv_iconst (v := 0) hx hb dX4_throneByWord_4 (by decide) ?_
  refine lv_aload_n hx hb dX4_throneByWord_5 rfl (lv_at hl 0 rfl) ?_
  refine va_get (D := (dC, dI)) (ci := 4) (v := .ref rL_supposed) (C := RX4) (T := TX4) (N := 2) hx hb hts inX4 hown hK hP 0 rfl rfl 1 (by decide) (hts _ wd_147) (fun _ h9 => h9) rfl dX4_throneByWord_6 ?_
  refine lv_iconst (v := 0) hx hb dX4_throneByWord_9 (by decide) ?_
  refine lv_bipush (v := 18) hx hb dX4_throneByWord_10 (by decide) ?_
  refine vz_copyi hx hb (hml.trans hl.1.symm) hown (hts _ wd_1134) (hts _ wd_1016) (hts _ wd_1017) (hts _ wd_1018) hK hP hD hS 10 2 7 1 rfl rfl rfl rfl (k := 18) (by decide) (by decide) (Nat.le_of_ble_eq_true rfl) (Nat.le_of_ble_eq_true (by decide +kernel)) dX4_throneByWord_12 (fun H locs f_875 c_f_875 hP hD hS => ?_)
  obtain ⟨hP, hD⟩ := wl2 (ws' := [(oc4 oL rL_values rL_supposed), (arI rL_values kL_values 18 fL_values), (arI rL_supposed kL_supposed 18 f_875), (oc1 oC iC_nodes iC_words iC_chances iC_unsures iC_slips iC_throneNode iC_saidWorth iC_unit rC_kind rC_parts rC_partNodes rC_weights rC_weightSums rC_toldWorths rC_steps rC_below rC_above rC_unsureWords rC_unsureWorths), (arI rC_kind kC_kind 18 fC_kind), (arI rC_parts kC_parts 18 fC_parts), (arI rC_partNodes kC_partNodes 72 fC_partNodes), (arI rC_weights kC_weights 72 fC_weights), (arI rC_weightSums kC_weightSums 18 fC_weightSums), (oc5 oS rS_worths rS_order rS_left), (arI rS_worths kS_worths 18 fS_worths)]) hP hD rfl
  refine lv_aload_n hx hb dX4_throneByWord_15 rfl (lv_at hl 1 rfl) ?_
  refine lv_iload_n hx hb dX4_throneByWord_16 rfl (lv_at hl 3 rfl) ?_
  have hMs := ml_of hD [false, false, false, true, false, false, false, false, false, false, false] (wc := [(oc1 oC iC_nodes iC_words iC_chances iC_unsures iC_slips iC_throneNode iC_saidWorth iC_unit rC_kind rC_parts rC_partNodes rC_weights rC_weightSums rC_toldWorths rC_steps rC_below rC_above rC_unsureWords rC_unsureWorths)]) rfl
  have hFc := va_freeM hD hS hA _ hMs
  refine va_calli (va_runV (As := [.int p0]) (rest := []) ⟨hx, hb, hml, hown, hts⟩ (tX1_hasNode l dC dI _ oC iC_nodes iC_words iC_chances iC_unsures iC_slips iC_throneNode iC_saidWorth iC_unit rC_kind rC_parts rC_partNodes rC_weights rC_weightSums rC_toldWorths rC_steps rC_below rC_above rC_unsureWords rC_unsureWorths p0 b_iC_nodes b_iC_unsures b_iC_throneNode) (cwV 1 hts (wd_V wd_634 wd_326 wd_327 wd_19 (wd_c wd_328)) rfl rfl rfl dv_yX1_hasNode_1 ⟨Nat.le_of_ble_eq_true rfl, Nat.le_of_ble_eq_true rfl⟩) ⟨Pw.fb, recvX1 hK hP (q0 := 3) rfl, fun U hU hW => Pw.to (hP.ms _ hMs) (hD.ms _ hMs) (hK.ms [false, false, false, false, false, false, false, false] rfl) hE hS hFc hU hW⟩ rfl rfl hl.1 rfl (lv_room (Nat.le_of_ble_eq_true rfl)) dX4_throneByWord_17 ⟨Nat.le_of_ble_eq_true rfl, Nat.le_of_ble_eq_true rfl⟩) hS (fun q _ h => hFc q h) hFc (fun r u t H locs ht hvm hw hB hz1 hk1 hS => ?_)
  have hru9 := hw.2
  have hw := hw.1
  obtain ⟨hP, hD⟩ := Bw.goN (ws' := [(oc4 oL rL_values rL_supposed), (arI rL_values kL_values 18 fL_values), (arI rL_supposed kL_supposed 18 f_875), (oc1 oC iC_nodes iC_words iC_chances iC_unsures iC_slips iC_throneNode iC_saidWorth iC_unit rC_kind rC_parts rC_partNodes rC_weights rC_weightSums rC_toldWorths rC_steps rC_below rC_above rC_unsureWords rC_unsureWorths), (arI rC_kind kC_kind 18 fC_kind), (arI rC_parts kC_parts 18 fC_parts), (arI rC_partNodes kC_partNodes 72 fC_partNodes), (arI rC_weights kC_weights 72 fC_weights), (arI rC_weightSums kC_weightSums 18 fC_weightSums), (oc5 oS rS_worths rS_order rS_left), (arI rS_worths kS_worths 18 fS_worths)]) hB rfl ht hP hD _ hMs hk1 hFc rfl
  clear hz1 hk1 hvm ht hB hMs
  rcases hw.2 with ⟨rfl, hc_876⟩ | ⟨rfl, hc_876⟩
  · skip
    refine lv_if_eq (tgt := 31) hx hb dX4_throneByWord_20 (by decide) (fun c => absurd c (by decide)) (fun _ => ?_)
    refine lv_aload_n hx hb dX4_throneByWord_23 rfl (lv_at hl 0 rfl) ?_
    refine va_get (D := (dC, dI)) (ci := 4) (v := .ref rL_supposed) (C := RX4) (T := TX4) (N := 2) hx hb hts inX4 hown hK hP 0 rfl rfl 1 (by decide) (hts _ wd_147) (fun _ h9 => h9) rfl dX4_throneByWord_24 ?_
    refine lv_iload_n hx hb dX4_throneByWord_27 rfl (lv_at hl 3 rfl) ?_
    refine lv_iload hx hb dX4_throneByWord_28 (lv_at hl 4 rfl) ?_
    refine vz_iast hx hb hK hP hD hS 2 1 rfl rfl (ti_in rfl hc_876.1 (om_97cd4a7c b_iC_nodes.2 hc_876.2)) dX4_throneByWord_30 (fun H locs f_878 hP hD hS => ?_)
    obtain ⟨hP, hD⟩ := wl2 (ws' := [(oc4 oL rL_values rL_supposed), (arI rL_values kL_values 18 fL_values), (arI rL_supposed kL_supposed 18 f_878), (oc1 oC iC_nodes iC_words iC_chances iC_unsures iC_slips iC_throneNode iC_saidWorth iC_unit rC_kind rC_parts rC_partNodes rC_weights rC_weightSums rC_toldWorths rC_steps rC_below rC_above rC_unsureWords rC_unsureWorths), (arI rC_kind kC_kind 18 fC_kind), (arI rC_parts kC_parts 18 fC_parts), (arI rC_partNodes kC_partNodes 72 fC_partNodes), (arI rC_weights kC_weights 72 fC_weights), (arI rC_weightSums kC_weightSums 18 fC_weightSums), (oc5 oS rS_worths rS_order rS_left), (arI rS_worths kS_worths 18 fS_worths)]) hP hD rfl
    refine lv_aload_n hx hb dX4_throneByWord_31 rfl (lv_at hl 0 rfl) ?_
    refine lv_aload_n hx hb dX4_throneByWord_32 rfl (lv_at hl 1 rfl) ?_
    refine lv_aload_n hx hb dX4_throneByWord_33 rfl (lv_at hl 0 rfl) ?_
    refine va_get (D := (dC, dI)) (ci := 4) (v := .ref rL_supposed) (C := RX4) (T := TX4) (N := 2) hx hb hts inX4 hown hK hP 0 rfl rfl 1 (by decide) (hts _ wd_147) (fun _ h9 => h9) rfl dX4_throneByWord_34 ?_
    have hFc := va_free (wc := [(oc4 oL rL_values rL_supposed), (arI rL_values kL_values 18 fL_values), (oc1 oC iC_nodes iC_words iC_chances iC_unsures iC_slips iC_throneNode iC_saidWorth iC_unit rC_kind rC_parts rC_partNodes rC_weights rC_weightSums rC_toldWorths rC_steps rC_below rC_above rC_unsureWords rC_unsureWorths), (arI rC_kind kC_kind 18 fC_kind), (arI rC_parts kC_parts 18 fC_parts), (arI rC_partNodes kC_partNodes 72 fC_partNodes), (arI rC_weights kC_weights 72 fC_weights), (arI rC_weightSums kC_weightSums 18 fC_weightSums), (arI rL_supposed kL_supposed 18 f_878)]) hD hS hA [0, 1, 3, 4, 5, 6, 7, 8, 2] rfl
    refine va_calli (va_runV (As := [.ref oC, .ref rL_supposed]) (rest := []) ⟨hx, hb, hml, hown, hts⟩ (tX4_weighAll l dC dI _ oL rL_values fL_values kL_values rL_supposed oC iC_nodes iC_words iC_chances iC_unsures iC_slips iC_throneNode iC_saidWorth iC_unit rC_kind fC_kind kC_kind rC_parts fC_parts kC_parts rC_partNodes fC_partNodes kC_partNodes rC_weights fC_weights kC_weights rC_weightSums fC_weightSums kC_weightSums rC_toldWorths rC_steps rC_below rC_above rC_unsureWords rC_unsureWorths rL_supposed f_878 kL_supposed b_iC_nodes b_iC_unsures b_iC_throneNode a_fC_parts a_fC_partNodes) (cwV 2 hts (wd_V wd_949 wd_613 wd_614 wd_37 (wd_c wd_615)) rfl rfl rfl dv_yX4_weighAll_2 ⟨Nat.le_of_ble_eq_true rfl, Nat.le_of_ble_eq_true rfl⟩) ⟨Pw.fb, recvX4 hK hP (q0 := 0) rfl, fun U hU hW => Pw.to (hP.sub [0, 1, 3, 4, 5, 6, 7, 8, 2] rfl) (hD.sub [0, 1, 3, 4, 5, 6, 7, 8, 2] (by decide) rfl) (hK.sub [0, 2, 3, 4, 5, 6, 1] rfl) hE hS hFc hU hW⟩ rfl rfl hl.1 rfl (lv_room (Nat.le_of_ble_eq_true rfl)) dX4_throneByWord_37 ⟨Nat.le_of_ble_eq_true rfl, Nat.le_of_ble_eq_true rfl⟩) hS (fun q _ h => hFc q h) hFc (fun r u t H locs ht hvm hw hB hz1 hk1 hS => ?_)
    have hru9 := hw.2
    have hw := hw.1
    refine ex_1_1 hB (fun f_879 e_f_879_0 hB => ?_)
    obtain ⟨hP, hD, hK⟩ := Bw.go (ws' := [(oc5 oS rS_worths rS_order rS_left), (arI rS_worths kS_worths 18 fS_worths), (oc4 oL rL_values rL_supposed), (arI rL_values kL_values 18 f_879), (oc1 oC iC_nodes iC_words iC_chances iC_unsures iC_slips iC_throneNode iC_saidWorth iC_unit rC_kind rC_parts rC_partNodes rC_weights rC_weightSums rC_toldWorths rC_steps rC_below rC_above rC_unsureWords rC_unsureWorths), (arI rC_kind kC_kind 18 fC_kind), (arI rC_parts kC_parts 18 fC_parts), (arI rC_partNodes kC_partNodes 72 fC_partNodes), (arI rC_weights kC_weights 72 fC_weights), (arI rC_weightSums kC_weightSums 18 fC_weightSums), (arI rL_supposed kL_supposed 18 f_878)]) (tys' := [(kS_worths, .int), (kL_values, .int), (kC_kind, .int), (kC_parts, .int), (kC_partNodes, .int), (kC_weights, .int), (kC_weightSums, .int), (kL_supposed, .int)]) hB rfl ht hvm hP hD hK [0, 1, 3, 4, 5, 6, 7, 8, 2] [9, 10] rfl (by decide) (by decide) [7] hk1 hFc rfl rfl rfl
    clear hz1 hk1 hvm ht hB
    obtain ⟨x_880, rfl⟩ : ∃ z, z = r := ⟨_, rfl⟩
    exact wq_i hx hb hr 0 ⟨trivial, trivial⟩ (fun t ht hW => ⟨f_879, f_878, Bw.to (hP.sub [2, 3, 10, 4, 5, 6, 7, 8, 9, 0, 1] rfl) (hD.sub [2, 3, 10, 4, 5, 6, 7, 8, 9, 0, 1] (by decide) rfl) (hK.sub [1, 7, 2, 3, 4, 5, 6, 0] rfl) ht hW⟩) hS dX4_throneByWord_40 hlocks
  · skip
    refine lv_if_eq (tgt := 31) hx hb dX4_throneByWord_20 (by decide) (fun _ => ?_) (fun c => absurd c (by decide))
    refine lv_aload_n hx hb dX4_throneByWord_31 rfl (lv_at hl 0 rfl) ?_
    refine lv_aload_n hx hb dX4_throneByWord_32 rfl (lv_at hl 1 rfl) ?_
    refine lv_aload_n hx hb dX4_throneByWord_33 rfl (lv_at hl 0 rfl) ?_
    refine va_get (D := (dC, dI)) (ci := 4) (v := .ref rL_supposed) (C := RX4) (T := TX4) (N := 2) hx hb hts inX4 hown hK hP 0 rfl rfl 1 (by decide) (hts _ wd_147) (fun _ h9 => h9) rfl dX4_throneByWord_34 ?_
    have hFc := va_free (wc := [(oc4 oL rL_values rL_supposed), (arI rL_values kL_values 18 fL_values), (oc1 oC iC_nodes iC_words iC_chances iC_unsures iC_slips iC_throneNode iC_saidWorth iC_unit rC_kind rC_parts rC_partNodes rC_weights rC_weightSums rC_toldWorths rC_steps rC_below rC_above rC_unsureWords rC_unsureWorths), (arI rC_kind kC_kind 18 fC_kind), (arI rC_parts kC_parts 18 fC_parts), (arI rC_partNodes kC_partNodes 72 fC_partNodes), (arI rC_weights kC_weights 72 fC_weights), (arI rC_weightSums kC_weightSums 18 fC_weightSums), (arI rL_supposed kL_supposed 18 f_875)]) hD hS hA [0, 1, 3, 4, 5, 6, 7, 8, 2] rfl
    refine va_calli (va_runV (As := [.ref oC, .ref rL_supposed]) (rest := []) ⟨hx, hb, hml, hown, hts⟩ (tX4_weighAll l dC dI _ oL rL_values fL_values kL_values rL_supposed oC iC_nodes iC_words iC_chances iC_unsures iC_slips iC_throneNode iC_saidWorth iC_unit rC_kind fC_kind kC_kind rC_parts fC_parts kC_parts rC_partNodes fC_partNodes kC_partNodes rC_weights fC_weights kC_weights rC_weightSums fC_weightSums kC_weightSums rC_toldWorths rC_steps rC_below rC_above rC_unsureWords rC_unsureWorths rL_supposed f_875 kL_supposed b_iC_nodes b_iC_unsures b_iC_throneNode a_fC_parts a_fC_partNodes) (cwV 2 hts (wd_V wd_949 wd_613 wd_614 wd_37 (wd_c wd_615)) rfl rfl rfl dv_yX4_weighAll_2 ⟨Nat.le_of_ble_eq_true rfl, Nat.le_of_ble_eq_true rfl⟩) ⟨Pw.fb, recvX4 hK hP (q0 := 0) rfl, fun U hU hW => Pw.to (hP.sub [0, 1, 3, 4, 5, 6, 7, 8, 2] rfl) (hD.sub [0, 1, 3, 4, 5, 6, 7, 8, 2] (by decide) rfl) (hK.sub [0, 2, 3, 4, 5, 6, 1] rfl) hE hS hFc hU hW⟩ rfl rfl hl.1 rfl (lv_room (Nat.le_of_ble_eq_true rfl)) dX4_throneByWord_37 ⟨Nat.le_of_ble_eq_true rfl, Nat.le_of_ble_eq_true rfl⟩) hS (fun q _ h => hFc q h) hFc (fun r u t H locs ht hvm hw hB hz1 hk1 hS => ?_)
    have hru9 := hw.2
    have hw := hw.1
    refine ex_1_1 hB (fun f_882 e_f_882_0 hB => ?_)
    obtain ⟨hP, hD, hK⟩ := Bw.go (ws' := [(oc5 oS rS_worths rS_order rS_left), (arI rS_worths kS_worths 18 fS_worths), (oc4 oL rL_values rL_supposed), (arI rL_values kL_values 18 f_882), (oc1 oC iC_nodes iC_words iC_chances iC_unsures iC_slips iC_throneNode iC_saidWorth iC_unit rC_kind rC_parts rC_partNodes rC_weights rC_weightSums rC_toldWorths rC_steps rC_below rC_above rC_unsureWords rC_unsureWorths), (arI rC_kind kC_kind 18 fC_kind), (arI rC_parts kC_parts 18 fC_parts), (arI rC_partNodes kC_partNodes 72 fC_partNodes), (arI rC_weights kC_weights 72 fC_weights), (arI rC_weightSums kC_weightSums 18 fC_weightSums), (arI rL_supposed kL_supposed 18 f_875)]) (tys' := [(kS_worths, .int), (kL_values, .int), (kC_kind, .int), (kC_parts, .int), (kC_partNodes, .int), (kC_weights, .int), (kC_weightSums, .int), (kL_supposed, .int)]) hB rfl ht hvm hP hD hK [0, 1, 3, 4, 5, 6, 7, 8, 2] [9, 10] rfl (by decide) (by decide) [7] hk1 hFc rfl rfl rfl
    clear hz1 hk1 hvm ht hB
    obtain ⟨x_883, rfl⟩ : ∃ z, z = r := ⟨_, rfl⟩
    exact wq_i hx hb hr 0 ⟨trivial, trivial⟩ (fun t ht hW => ⟨f_882, f_875, Bw.to (hP.sub [2, 3, 10, 4, 5, 6, 7, 8, 9, 0, 1] rfl) (hD.sub [2, 3, 10, 4, 5, 6, 7, 8, 9, 0, 1] (by decide) rfl) (hK.sub [1, 7, 2, 3, 4, 5, 6, 0] rfl) ht hW⟩) hS dX4_throneByWord_40 hlocks
set_option maxHeartbeats 4000000 in
set_option maxRecDepth 100000 in
theorem tX4_throneBySet (l : Launch) (dC : Nat → ClassId) (dI : Nat → Nat → Nat) (sz : Nat) (oL : Nat) (rL_values : Nat) (fL_values : Nat → Int32) (kL_values : ClassId) (rL_supposed : Nat) (fL_supposed : Nat → Int32) (kL_supposed : ClassId) (oC : Nat) (iC_nodes : Int32) (iC_words : Int32) (iC_chances : Int32) (iC_unsures : Int32) (iC_slips : Int32) (iC_throneNode : Int32) (iC_saidWorth : Int32) (iC_unit : Int32) (rC_kind : Nat) (fC_kind : Nat → Int32) (kC_kind : ClassId) (rC_parts : Nat) (fC_parts : Nat → Int32) (kC_parts : ClassId) (rC_partNodes : Nat) (fC_partNodes : Nat → Int32) (kC_partNodes : ClassId) (rC_weights : Nat) (fC_weights : Nat → Int32) (kC_weights : ClassId) (rC_weightSums : Nat) (fC_weightSums : Nat → Int32) (kC_weightSums : ClassId) (rC_toldWorths : Nat) (rC_steps : Nat) (rC_below : Nat) (rC_above : Nat) (rC_unsureWords : Nat) (rC_unsureWorths : Nat) (oS : Nat) (rS_worths : Nat) (fS_worths : Nat → Int32) (kS_worths : ClassId) (rS_order : Nat) (rS_left : Nat) (p0 : Int32) (p1 : Int32) (b_iC_nodes : 0 ≤ iC_nodes.toInt ∧ iC_nodes.toInt ≤ 18) (b_iC_unsures : 0 ≤ iC_unsures.toInt ∧ iC_unsures.toInt ≤ 4) (b_iC_throneNode : (-1) ≤ iC_throneNode.toInt ∧ iC_throneNode.toInt ≤ 17) (a_fC_parts : ∀ j : Nat, j < 18 → 0 ≤ (fC_parts j).toInt ∧ (fC_parts j).toInt ≤ 4) (a_fC_partNodes : ∀ j : Nat, j < 72 → 0 ≤ (fC_partNodes j).toInt ∧ (fC_partNodes j).toInt ≤ 17)  : Met l yX4_throneBySet (Cond.code yX4_throneBySet cX4_throneBySet 6 (some .int) :: wG) ({ frames := 3, cells := 0, slots := 0, locals := 71 }) (va_Pc [.ref oL, .ref oC, .ref oS, .int p0, .int p1] (Pw dC dI sz [(oc4 oL rL_values rL_supposed), (arI rL_values kL_values 18 fL_values), (arI rL_supposed kL_supposed 18 fL_supposed), (oc1 oC iC_nodes iC_words iC_chances iC_unsures iC_slips iC_throneNode iC_saidWorth iC_unit rC_kind rC_parts rC_partNodes rC_weights rC_weightSums rC_toldWorths rC_steps rC_below rC_above rC_unsureWords rC_unsureWorths), (arI rC_kind kC_kind 18 fC_kind), (arI rC_parts kC_parts 18 fC_parts), (arI rC_partNodes kC_partNodes 72 fC_partNodes), (arI rC_weights kC_weights 72 fC_weights), (arI rC_weightSums kC_weightSums 18 fC_weightSums), (oc5 oS rS_worths rS_order rS_left), (arI rS_worths kS_worths 18 fS_worths)] [(kL_values, .int), (kL_supposed, .int), (kC_kind, .int), (kC_parts, .int), (kC_partNodes, .int), (kC_weights, .int), (kC_weightSums, .int), (kS_worths, .int)])) (va_Qi (fun (r : Int32) (_ : Nat) => True ∧ True) (fun (_ : Nat) (t : State) => ∃ (nfL_values : Nat → Int32) (nfL_supposed : Nat → Int32), Bw dC dI (va_A [(oc4 oL rL_values rL_supposed), (arI rL_values kL_values 18 fL_values), (arI rL_supposed kL_supposed 18 fL_supposed), (oc1 oC iC_nodes iC_words iC_chances iC_unsures iC_slips iC_throneNode iC_saidWorth iC_unit rC_kind rC_parts rC_partNodes rC_weights rC_weightSums rC_toldWorths rC_steps rC_below rC_above rC_unsureWords rC_unsureWorths), (arI rC_kind kC_kind 18 fC_kind), (arI rC_parts kC_parts 18 fC_parts), (arI rC_partNodes kC_partNodes 72 fC_partNodes), (arI rC_weights kC_weights 72 fC_weights), (arI rC_weightSums kC_weightSums 18 fC_weightSums), (oc5 oS rS_worths rS_order rS_left), (arI rS_worths kS_worths 18 fS_worths)] sz) [(oc4 oL rL_values rL_supposed), (arI rL_values kL_values 18 nfL_values), (arI rL_supposed kL_supposed 18 nfL_supposed), (oc1 oC iC_nodes iC_words iC_chances iC_unsures iC_slips iC_throneNode iC_saidWorth iC_unit rC_kind rC_parts rC_partNodes rC_weights rC_weightSums rC_toldWorths rC_steps rC_below rC_above rC_unsureWords rC_unsureWorths), (arI rC_kind kC_kind 18 fC_kind), (arI rC_parts kC_parts 18 fC_parts), (arI rC_partNodes kC_partNodes 72 fC_partNodes), (arI rC_weights kC_weights 72 fC_weights), (arI rC_weightSums kC_weightSums 18 fC_weightSums), (oc5 oS rS_worths rS_order rS_left), (arI rS_worths kS_worths 18 fS_worths)] [(kL_values, .int), (kL_supposed, .int), (kC_kind, .int), (kC_parts, .int), (kC_partNodes, .int), (kC_weights, .int), (kC_weightSums, .int), (kS_worths, .int)] t) (va_A [(oc4 oL rL_values rL_supposed), (arI rL_values kL_values 18 fL_values), (arI rL_supposed kL_supposed 18 fL_supposed), (oc1 oC iC_nodes iC_words iC_chances iC_unsures iC_slips iC_throneNode iC_saidWorth iC_unit rC_kind rC_parts rC_partNodes rC_weights rC_weightSums rC_toldWorths rC_steps rC_below rC_above rC_unsureWords rC_unsureWorths), (arI rC_kind kC_kind 18 fC_kind), (arI rC_parts kC_parts 18 fC_parts), (arI rC_partNodes kC_partNodes 72 fC_partNodes), (arI rC_weights kC_weights 72 fC_weights), (arI rC_weightSums kC_weightSums 18 fC_weightSums), (oc5 oS rS_worths rS_order rS_left), (arI rS_worths kS_worths 18 fS_worths)] sz)) 0 0 (va_A [(oc4 oL rL_values rL_supposed), (arI rL_values kL_values 18 fL_values), (arI rL_supposed kL_supposed 18 fL_supposed), (oc1 oC iC_nodes iC_words iC_chances iC_unsures iC_slips iC_throneNode iC_saidWorth iC_unit rC_kind rC_parts rC_partNodes rC_weights rC_weightSums rC_toldWorths rC_steps rC_below rC_above rC_unsureWords rC_unsureWorths), (arI rC_kind kC_kind 18 fC_kind), (arI rC_parts kC_parts 18 fC_parts), (arI rC_partNodes kC_partNodes 72 fC_partNodes), (arI rC_weights kC_weights 72 fC_weights), (arI rC_weightSums kC_weightSums 18 fC_weightSums), (oc5 oS rS_worths rS_order rS_left), (arI rS_worths kS_worths 18 fS_worths)] sz) := by
  refine Met.ofW (cc := cX4_throneBySet) (maxL := 6) (ret := (some .int)) pnX4 rfl ?_
  intro p e s m args below meth c s₁ B hml hv
  obtain ⟨rfl, hsz, hP, hK, hD0, hE⟩ := hv
  have hx := B.exec
  have hb := B.bytes
  have hr := B.returns
  have hts : ∀ w ∈ wG, w.before ([.ref oL, .ref oC, .ref oS, .int p0, .int p1] : List Value).toArray s = true := fun w h => atoms_spec (ws := Cond.code yX4_throneBySet cX4_throneBySet 6 (some .int) :: wG) B.pre w (List.mem_cons_of_mem _ h)
  have hown : s.vm.findClass RX4 = some m.cls := own_of B.named rfl
  have hlocks := B.notSynchronized
  subst hsz
  have hD := hD0.self (sz := s.heap.size)
  generalize hAe : va_A [(oc4 oL rL_values rL_supposed), (arI rL_values kL_values 18 fL_values), (arI rL_supposed kL_supposed 18 fL_supposed), (oc1 oC iC_nodes iC_words iC_chances iC_unsures iC_slips iC_throneNode iC_saidWorth iC_unit rC_kind rC_parts rC_partNodes rC_weights rC_weightSums rC_toldWorths rC_steps rC_below rC_above rC_unsureWords rC_unsureWorths), (arI rC_kind kC_kind 18 fC_kind), (arI rC_parts kC_parts 18 fC_parts), (arI rC_partNodes kC_partNodes 72 fC_partNodes), (arI rC_weights kC_weights 72 fC_weights), (arI rC_weightSums kC_weightSums 18 fC_weightSums), (oc5 oS rS_worths rS_order rS_left), (arI rS_worths kS_worths 18 fS_worths)] s.heap.size = A at hD hE ⊢
  have hA : ∀ q : Nat, s.heap.size ≤ q → A q := fun q h => by rw [← hAe]; exact Or.inr h
  have hS : va_S A s.heap s.heap [] := va_S.rf
  have hl := lv_entry ([.ref oL, .ref oC, .ref oS, .int p0, .int p1]) (n := 6) (Nat.le_of_ble_eq_true rfl)
  rw [lg_entry_eq]
  generalize (lg_sl ([.ref oL, .ref oC, .ref oS, .int p0, .int p1]) ++ List.replicate (6 - (lg_sl ([.ref oL, .ref oC, .ref oS, .int p0, .int p1])).length) Slot.unset).toArray = ls at hl ⊢
  have hl : lv_has ls 6 [(0, .ref oL), (1, .ref oC), (2, .ref oS), (3, .int p0), (4, .int p1)] := hl
  have rg_p0 := fb_rng p0
  have rg_p1 := fb_rng p1
  refine lv_iconst (v := 0) hx hb dX4_throneBySet_0 (by decide) ?_
  refine lv_istore (lv' := [(5, .int 0), (0, .ref oL), (1, .ref oC), (2, .ref oS), (3, .int p0), (4, .int p1)]) hx hb dX4_throneBySet_1 hl (by decide) rfl (fun ls hl => ?_)
  have hl := lv_sub hl (l' := [(5, .int 0), (0, .ref oL), (1, .ref oC), (2, .ref oS), (3, .int p0), (4, .int p1)]) [0, 1, 2, 3, 4, 5] rfl
  have key_n_910 : ∀ (n_910 : Nat) (z_908 : Int32) (f_909 : Nat → Int32) (H : Heap) (locs : List Loc) (ls : Array Slot), (0 ≤ z_908.toInt ∧ z_908.toInt ≤ 2147483647) → (2147483647 - z_908.toInt).toNat < n_910 → va_P (dC, dI) vwCl [(oc4 oL rL_values rL_supposed), (arI rL_values kL_values 18 fL_values), (arI rL_supposed kL_supposed 18 f_909), (oc1 oC iC_nodes iC_words iC_chances iC_unsures iC_slips iC_throneNode iC_saidWorth iC_unit rC_kind rC_parts rC_partNodes rC_weights rC_weightSums rC_toldWorths rC_steps rC_below rC_above rC_unsureWords rC_unsureWorths), (arI rC_kind kC_kind 18 fC_kind), (arI rC_parts kC_parts 18 fC_parts), (arI rC_partNodes kC_partNodes 72 fC_partNodes), (arI rC_weights kC_weights 72 fC_weights), (arI rC_weightSums kC_weightSums 18 fC_weightSums), (oc5 oS rS_worths rS_order rS_left), (arI rS_worths kS_worths 18 fS_worths)] H → va_D A [(oc4 oL rL_values rL_supposed), (arI rL_values kL_values 18 fL_values), (arI rL_supposed kL_supposed 18 f_909), (oc1 oC iC_nodes iC_words iC_chances iC_unsures iC_slips iC_throneNode iC_saidWorth iC_unit rC_kind rC_parts rC_partNodes rC_weights rC_weightSums rC_toldWorths rC_steps rC_below rC_above rC_unsureWords rC_unsureWorths), (arI rC_kind kC_kind 18 fC_kind), (arI rC_parts kC_parts 18 fC_parts), (arI rC_partNodes kC_partNodes 72 fC_partNodes), (arI rC_weights kC_weights 72 fC_weights), (arI rC_weightSums kC_weightSums 18 fC_weightSums), (oc5 oS rS_worths rS_order rS_left), (arI rS_worths kS_worths 18 fS_worths)] → va_S A s.heap H locs → lv_has ls 6 [(5, .int z_908), (0, .ref oL), (1, .ref oC), (2, .ref oS), (3, .int p0), (4, .int p1)] → W p l e (headSpec (Cond.code yX4_throneBySet cX4_throneBySet 6 (some .int) :: wG) ({ frames := 3, cells := 0, slots := 0, locals := 71 })).room s m ([.ref oL, .ref oC, .ref oS, .int p0, .int p1] : List Value).toArray below meth c H locs 0 0 (MQ below (va_Qi (fun (r : Int32) (_ : Nat) => True ∧ True) (fun (_ : Nat) (t : State) => ∃ (nfL_values : Nat → Int32) (nfL_supposed : Nat → Int32), Bw dC dI A [(oc4 oL rL_values rL_supposed), (arI rL_values kL_values 18 nfL_values), (arI rL_supposed kL_supposed 18 nfL_supposed), (oc1 oC iC_nodes iC_words iC_chances iC_unsures iC_slips iC_throneNode iC_saidWorth iC_unit rC_kind rC_parts rC_partNodes rC_weights rC_weightSums rC_toldWorths rC_steps rC_below rC_above rC_unsureWords rC_unsureWorths), (arI rC_kind kC_kind 18 fC_kind), (arI rC_parts kC_parts 18 fC_parts), (arI rC_partNodes kC_partNodes 72 fC_partNodes), (arI rC_weights kC_weights 72 fC_weights), (arI rC_weightSums kC_weightSums 18 fC_weightSums), (oc5 oS rS_worths rS_order rS_left), (arI rS_worths kS_worths 18 fS_worths)] [(kL_values, .int), (kL_supposed, .int), (kC_kind, .int), (kC_parts, .int), (kC_partNodes, .int), (kC_weights, .int), (kC_weightSums, .int), (kS_worths, .int)] t) A) ([.ref oL, .ref oC, .ref oS, .int p0, .int p1] : List Value).toArray s 0 0 A) (F0 m 3 ls []) := by
    intro n_910
    induction n_910 with
    | zero => intro z_908 f_909 H locs ls hi0_n_910 hm; exact absurd hm (Nat.not_lt_zero _)
    | succ n_910 ih_n_910 =>
      intro z_908 f_909 H locs ls hi0_n_910 hm_n_910 hP hD hS hl
      have rg_z_908 := fb_rng z_908
      refine lv_iload hx hb dX4_throneBySet_3 (lv_at hl 0 rfl) ?_
      refine lv_aload_n hx hb dX4_throneBySet_5 rfl (lv_at hl 2 rfl) ?_
      refine va_get (D := (dC, dI)) (ci := 1) (v := .int iC_nodes) (C := RX1) (T := TX1) (N := 19) hx hb hts inX1 hown hK hP 3 rfl rfl 0 (by decide) (hts _ wd_616) (fun _ h9 => h9) rfl dX4_throneBySet_6 ?_
      have rg_iC_nodes := fb_rng iC_nodes
      refine lv_icmp_ge (tgt := 47) hx hb dX4_throneBySet_9 (by decide) (fun c_911 => ?_) (fun c_911 => ?_)
      · skip
        have gc_911 := ti_le c_911 rfl rfl
        refine lv_aload_n hx hb dX4_throneBySet_47 rfl (lv_at hl 1 rfl) ?_
        refine lv_aload_n hx hb dX4_throneBySet_48 rfl (lv_at hl 2 rfl) ?_
        refine lv_aload_n hx hb dX4_throneBySet_49 rfl (lv_at hl 1 rfl) ?_
        refine va_get (D := (dC, dI)) (ci := 4) (v := .ref rL_supposed) (C := RX4) (T := TX4) (N := 2) hx hb hts inX4 hown hK hP 0 rfl rfl 1 (by decide) (hts _ wd_147) (fun _ h9 => h9) rfl dX4_throneBySet_50 ?_
        have hFc := va_free (wc := [(oc4 oL rL_values rL_supposed), (arI rL_values kL_values 18 fL_values), (oc1 oC iC_nodes iC_words iC_chances iC_unsures iC_slips iC_throneNode iC_saidWorth iC_unit rC_kind rC_parts rC_partNodes rC_weights rC_weightSums rC_toldWorths rC_steps rC_below rC_above rC_unsureWords rC_unsureWorths), (arI rC_kind kC_kind 18 fC_kind), (arI rC_parts kC_parts 18 fC_parts), (arI rC_partNodes kC_partNodes 72 fC_partNodes), (arI rC_weights kC_weights 72 fC_weights), (arI rC_weightSums kC_weightSums 18 fC_weightSums), (arI rL_supposed kL_supposed 18 f_909)]) hD hS hA [0, 1, 3, 4, 5, 6, 7, 8, 2] rfl
        refine va_calli (va_runV (As := [.ref oC, .ref rL_supposed]) (rest := []) ⟨hx, hb, hml, hown, hts⟩ (tX4_weighAll l dC dI _ oL rL_values fL_values kL_values rL_supposed oC iC_nodes iC_words iC_chances iC_unsures iC_slips iC_throneNode iC_saidWorth iC_unit rC_kind fC_kind kC_kind rC_parts fC_parts kC_parts rC_partNodes fC_partNodes kC_partNodes rC_weights fC_weights kC_weights rC_weightSums fC_weightSums kC_weightSums rC_toldWorths rC_steps rC_below rC_above rC_unsureWords rC_unsureWorths rL_supposed f_909 kL_supposed b_iC_nodes b_iC_unsures b_iC_throneNode a_fC_parts a_fC_partNodes) (cwV 2 hts (wd_V wd_949 wd_613 wd_614 wd_37 (wd_c wd_615)) rfl rfl rfl dv_yX4_weighAll_2 ⟨Nat.le_of_ble_eq_true rfl, Nat.le_of_ble_eq_true rfl⟩) ⟨Pw.fb, recvX4 hK hP (q0 := 0) rfl, fun U hU hW => Pw.to (hP.sub [0, 1, 3, 4, 5, 6, 7, 8, 2] rfl) (hD.sub [0, 1, 3, 4, 5, 6, 7, 8, 2] (by decide) rfl) (hK.sub [0, 2, 3, 4, 5, 6, 1] rfl) hE hS hFc hU hW⟩ rfl rfl hl.1 rfl (lv_room (Nat.le_of_ble_eq_true rfl)) dX4_throneBySet_53 ⟨Nat.le_of_ble_eq_true rfl, Nat.le_of_ble_eq_true rfl⟩) hS (fun q _ h => hFc q h) hFc (fun r u t H locs ht hvm hw hB hz1 hk1 hS => ?_)
        have hru9 := hw.2
        have hw := hw.1
        refine ex_1_1 hB (fun f_912 e_f_912_0 hB => ?_)
        obtain ⟨hP, hD, hK⟩ := Bw.go (ws' := [(oc5 oS rS_worths rS_order rS_left), (arI rS_worths kS_worths 18 fS_worths), (oc4 oL rL_values rL_supposed), (arI rL_values kL_values 18 f_912), (oc1 oC iC_nodes iC_words iC_chances iC_unsures iC_slips iC_throneNode iC_saidWorth iC_unit rC_kind rC_parts rC_partNodes rC_weights rC_weightSums rC_toldWorths rC_steps rC_below rC_above rC_unsureWords rC_unsureWorths), (arI rC_kind kC_kind 18 fC_kind), (arI rC_parts kC_parts 18 fC_parts), (arI rC_partNodes kC_partNodes 72 fC_partNodes), (arI rC_weights kC_weights 72 fC_weights), (arI rC_weightSums kC_weightSums 18 fC_weightSums), (arI rL_supposed kL_supposed 18 f_909)]) (tys' := [(kS_worths, .int), (kL_values, .int), (kC_kind, .int), (kC_parts, .int), (kC_partNodes, .int), (kC_weights, .int), (kC_weightSums, .int), (kL_supposed, .int)]) hB rfl ht hvm hP hD hK [0, 1, 3, 4, 5, 6, 7, 8, 2] [9, 10] rfl (by decide) (by decide) [7] hk1 hFc rfl rfl rfl
        clear hz1 hk1 hvm ht hB
        obtain ⟨x_913, rfl⟩ : ∃ z, z = r := ⟨_, rfl⟩
        have rg_x_913 := fb_rng x_913
        exact wq_i hx hb hr 0 ⟨trivial, trivial⟩ (fun t ht hW => ⟨f_912, f_909, Bw.to (hP.sub [2, 3, 10, 4, 5, 6, 7, 8, 9, 0, 1] rfl) (hD.sub [2, 3, 10, 4, 5, 6, 7, 8, 9, 0, 1] (by decide) rfl) (hK.sub [1, 7, 2, 3, 4, 5, 6, 0] rfl) ht hW⟩) hS dX4_throneBySet_56 hlocks
      · skip
        have gc_911 := ti_nle c_911 rfl rfl
        refine lv_aload_n hx hb dX4_throneBySet_12 rfl (lv_at hl 1 rfl) ?_
        refine va_get (D := (dC, dI)) (ci := 4) (v := .ref rL_supposed) (C := RX4) (T := TX4) (N := 2) hx hb hts inX4 hown hK hP 0 rfl rfl 1 (by decide) (hts _ wd_147) (fun _ h9 => h9) rfl dX4_throneBySet_13 ?_
        refine lv_iload hx hb dX4_throneBySet_16 (lv_at hl 0 rfl) ?_
        refine lv_iload_n hx hb dX4_throneBySet_18 rfl (lv_at hl 4 rfl) ?_
        refine lv_iload hx hb dX4_throneBySet_19 (lv_at hl 0 rfl) ?_
        refine lv_ishr hx hb dX4_throneBySet_21 ?_
        refine lv_topi (fun x_914 ex_914 => ?_)
        have rg_x_914 := fb_rng x_914
        refine lv_iconst (v := 1) hx hb dX4_throneBySet_22 (by decide) ?_
        refine lv_iand hx hb dX4_throneBySet_23 ?_
        refine lv_topi (fun x_915 ex_915 => ?_)
        have rg_x_915 := fb_rng x_915
        refine lv_iconst (v := 1) hx hb dX4_throneBySet_24 (by decide) ?_
        refine lv_icmp_ne (tgt := 38) hx hb dX4_throneBySet_25 (by decide) (fun c_916 => ?_) (fun c_916 => ?_)
        · skip
          have gc_916 := ti_ne c_916 rfl kc_1
          refine lv_iload hx hb dX4_throneBySet_38 (lv_at hl 5 rfl) ?_
          refine vz_iast hx hb hK hP hD hS 2 1 rfl rfl (ti_in rfl hi0_n_910.1 (om_97cd4a7c b_iC_nodes.2 gc_911)) dX4_throneBySet_40 (fun H locs f_917 hP hD hS => ?_)
          obtain ⟨hP, hD⟩ := wl2 (ws' := [(oc4 oL rL_values rL_supposed), (arI rL_values kL_values 18 fL_values), (arI rL_supposed kL_supposed 18 f_917), (oc1 oC iC_nodes iC_words iC_chances iC_unsures iC_slips iC_throneNode iC_saidWorth iC_unit rC_kind rC_parts rC_partNodes rC_weights rC_weightSums rC_toldWorths rC_steps rC_below rC_above rC_unsureWords rC_unsureWorths), (arI rC_kind kC_kind 18 fC_kind), (arI rC_parts kC_parts 18 fC_parts), (arI rC_partNodes kC_partNodes 72 fC_partNodes), (arI rC_weights kC_weights 72 fC_weights), (arI rC_weightSums kC_weightSums 18 fC_weightSums), (oc5 oS rS_worths rS_order rS_left), (arI rS_worths kS_worths 18 fS_worths)]) hP hD rfl
          obtain ⟨x_918, ex_918⟩ : ∃ z : Int32, z = z_908 + Int32.ofInt 1 := ⟨_, rfl⟩
          have vx_918 : x_918.toInt = z_908.toInt + 1 := ti_add (y := 1) ex_918 rfl kc_1 (om_4e4fce7e hi0_n_910.1) (om_a32d6481 b_iC_nodes.2 gc_911)
          refine lv_iinc (v := x_918) (lv' := [(5, .int x_918), (0, .ref oL), (1, .ref oC), (2, .ref oS), (3, .int p0), (4, .int p1)]) hx hb dX4_throneBySet_41 hl (k := 0) rfl ex_918.symm (by decide) rfl (fun ls hl => ?_)
          refine lv_goto (tgt := 3) hx hb dX4_throneBySet_44 (by decide) ?_
          exact ih_n_910 x_918 f_917 _ _ _  ⟨(om_83b90de5 hi0_n_910.1 vx_918), (om_ed8867da b_iC_nodes.2 gc_911 vx_918)⟩ (ms_lt hm_n_910 (om_b9393183 vx_918) (om_1d9fa7fb b_iC_nodes.2 gc_911)) hP hD hS (lv_sub hl [0, 1, 2, 3, 4, 5] rfl)
        · skip
          have gc_916 := ti_eq c_916 rfl kc_1
          refine lv_aload_n hx hb dX4_throneBySet_28 rfl (lv_at hl 3 rfl) ?_
          refine va_get (D := (dC, dI)) (ci := 5) (v := .ref rS_worths) (C := RX5) (T := TX5) (N := 3) hx hb hts inX5 hown hK hP 9 rfl rfl 0 (by decide) (hts _ wd_948) (fun _ h9 => h9) rfl dX4_throneBySet_29 ?_
          refine lv_iload hx hb dX4_throneBySet_32 (lv_at hl 0 rfl) ?_
          refine va_iald hx hb hK hP 10 7 rfl rfl (ti_in rfl hi0_n_910.1 (om_97cd4a7c b_iC_nodes.2 gc_911)) dX4_throneBySet_34 ?_
          refine lv_topi (fun x_919 ex_919 => ?_)
          have rg_x_919 := fb_rng x_919
          have kx_919 : (fS_worths z_908.toNatClampNeg).toInt = x_919.toInt := by rw [ex_919]
          refine lv_goto (tgt := 40) hx hb dX4_throneBySet_35 (by decide) ?_
          refine vz_iast hx hb hK hP hD hS 2 1 rfl rfl (ti_in rfl hi0_n_910.1 (om_97cd4a7c b_iC_nodes.2 gc_911)) dX4_throneBySet_40 (fun H locs f_920 hP hD hS => ?_)
          obtain ⟨hP, hD⟩ := wl2 (ws' := [(oc4 oL rL_values rL_supposed), (arI rL_values kL_values 18 fL_values), (arI rL_supposed kL_supposed 18 f_920), (oc1 oC iC_nodes iC_words iC_chances iC_unsures iC_slips iC_throneNode iC_saidWorth iC_unit rC_kind rC_parts rC_partNodes rC_weights rC_weightSums rC_toldWorths rC_steps rC_below rC_above rC_unsureWords rC_unsureWorths), (arI rC_kind kC_kind 18 fC_kind), (arI rC_parts kC_parts 18 fC_parts), (arI rC_partNodes kC_partNodes 72 fC_partNodes), (arI rC_weights kC_weights 72 fC_weights), (arI rC_weightSums kC_weightSums 18 fC_weightSums), (oc5 oS rS_worths rS_order rS_left), (arI rS_worths kS_worths 18 fS_worths)]) hP hD rfl
          obtain ⟨x_921, ex_921⟩ : ∃ z : Int32, z = z_908 + Int32.ofInt 1 := ⟨_, rfl⟩
          have vx_921 : x_921.toInt = z_908.toInt + 1 := ti_add (y := 1) ex_921 rfl kc_1 (om_4e4fce7e hi0_n_910.1) (om_a32d6481 b_iC_nodes.2 gc_911)
          refine lv_iinc (v := x_921) (lv' := [(5, .int x_921), (0, .ref oL), (1, .ref oC), (2, .ref oS), (3, .int p0), (4, .int p1)]) hx hb dX4_throneBySet_41 hl (k := 0) rfl ex_921.symm (by decide) rfl (fun ls hl => ?_)
          refine lv_goto (tgt := 3) hx hb dX4_throneBySet_44 (by decide) ?_
          exact ih_n_910 x_921 f_920 _ _ _  ⟨(om_83b90de5 hi0_n_910.1 vx_921), (om_ed8867da b_iC_nodes.2 gc_911 vx_921)⟩ (ms_lt hm_n_910 (om_b9393183 vx_921) (om_1d9fa7fb b_iC_nodes.2 gc_911)) hP hD hS (lv_sub hl [0, 1, 2, 3, 4, 5] rfl)
  exact key_n_910 (((2147483647 - (0 : Int32).toInt).toNat) + 1) 0 fL_supposed _ _ _  ⟨(om_b1de7dbe kc_0), (om_daf17c64 kc_0)⟩ (Nat.lt_add_one _) hP hD hS hl
set_option maxHeartbeats 4000000 in
set_option maxRecDepth 100000 in
theorem tX4_throneByUnsure (l : Launch) (dC : Nat → ClassId) (dI : Nat → Nat → Nat) (sz : Nat) (oL : Nat) (rL_values : Nat) (fL_values : Nat → Int32) (kL_values : ClassId) (rL_supposed : Nat) (fL_supposed : Nat → Int32) (kL_supposed : ClassId) (oC : Nat) (iC_nodes : Int32) (iC_words : Int32) (iC_chances : Int32) (iC_unsures : Int32) (iC_slips : Int32) (iC_throneNode : Int32) (iC_saidWorth : Int32) (iC_unit : Int32) (rC_kind : Nat) (fC_kind : Nat → Int32) (kC_kind : ClassId) (rC_parts : Nat) (fC_parts : Nat → Int32) (kC_parts : ClassId) (rC_partNodes : Nat) (fC_partNodes : Nat → Int32) (kC_partNodes : ClassId) (rC_weights : Nat) (fC_weights : Nat → Int32) (kC_weights : ClassId) (rC_weightSums : Nat) (fC_weightSums : Nat → Int32) (kC_weightSums : ClassId) (rC_toldWorths : Nat) (rC_steps : Nat) (rC_below : Nat) (rC_above : Nat) (rC_unsureWords : Nat) (fC_unsureWords : Nat → Int32) (kC_unsureWords : ClassId) (rC_unsureWorths : Nat) (fC_unsureWorths : Nat → Int32) (kC_unsureWorths : ClassId) (rW : Nat) (fW : Nat → Int32) (kW : ClassId) (p0 : Int32) (b_iC_nodes : 0 ≤ iC_nodes.toInt ∧ iC_nodes.toInt ≤ 18) (b_iC_unsures : 0 ≤ iC_unsures.toInt ∧ iC_unsures.toInt ≤ 4) (b_iC_throneNode : (-1) ≤ iC_throneNode.toInt ∧ iC_throneNode.toInt ≤ 17) (a_fC_parts : ∀ j : Nat, j < 18 → 0 ≤ (fC_parts j).toInt ∧ (fC_parts j).toInt ≤ 4) (a_fC_partNodes : ∀ j : Nat, j < 72 → 0 ≤ (fC_partNodes j).toInt ∧ (fC_partNodes j).toInt ≤ 17) (a_fC_unsureWords : ∀ j : Nat, j < 4 → 0 ≤ (fC_unsureWords j).toInt ∧ (fC_unsureWords j).toInt ≤ 17)  : Met l yX4_throneByUnsure (Cond.code yX4_throneByUnsure cX4_throneByUnsure 5 (some .int) :: wG) ({ frames := 3, cells := 0, slots := 0, locals := 71 }) (va_Pc [.ref oL, .ref oC, .ref rW, .int p0] (Pw dC dI sz [(oc4 oL rL_values rL_supposed), (arI rL_values kL_values 18 fL_values), (arI rL_supposed kL_supposed 18 fL_supposed), (oc1 oC iC_nodes iC_words iC_chances iC_unsures iC_slips iC_throneNode iC_saidWorth iC_unit rC_kind rC_parts rC_partNodes rC_weights rC_weightSums rC_toldWorths rC_steps rC_below rC_above rC_unsureWords rC_unsureWorths), (arI rC_kind kC_kind 18 fC_kind), (arI rC_parts kC_parts 18 fC_parts), (arI rC_partNodes kC_partNodes 72 fC_partNodes), (arI rC_weights kC_weights 72 fC_weights), (arI rC_weightSums kC_weightSums 18 fC_weightSums), (arI rC_unsureWords kC_unsureWords 4 fC_unsureWords), (arI rC_unsureWorths kC_unsureWorths 4 fC_unsureWorths), (arI rW kW 18 fW)] [(kL_values, .int), (kL_supposed, .int), (kC_kind, .int), (kC_parts, .int), (kC_partNodes, .int), (kC_weights, .int), (kC_weightSums, .int), (kC_unsureWords, .int), (kC_unsureWorths, .int), (kW, .int)])) (va_Qi (fun (r : Int32) (_ : Nat) => True ∧ True) (fun (_ : Nat) (t : State) => ∃ (nfL_values : Nat → Int32) (nfL_supposed : Nat → Int32), Bw dC dI (va_A [(oc4 oL rL_values rL_supposed), (arI rL_values kL_values 18 fL_values), (arI rL_supposed kL_supposed 18 fL_supposed), (oc1 oC iC_nodes iC_words iC_chances iC_unsures iC_slips iC_throneNode iC_saidWorth iC_unit rC_kind rC_parts rC_partNodes rC_weights rC_weightSums rC_toldWorths rC_steps rC_below rC_above rC_unsureWords rC_unsureWorths), (arI rC_kind kC_kind 18 fC_kind), (arI rC_parts kC_parts 18 fC_parts), (arI rC_partNodes kC_partNodes 72 fC_partNodes), (arI rC_weights kC_weights 72 fC_weights), (arI rC_weightSums kC_weightSums 18 fC_weightSums), (arI rC_unsureWords kC_unsureWords 4 fC_unsureWords), (arI rC_unsureWorths kC_unsureWorths 4 fC_unsureWorths), (arI rW kW 18 fW)] sz) [(oc4 oL rL_values rL_supposed), (arI rL_values kL_values 18 nfL_values), (arI rL_supposed kL_supposed 18 nfL_supposed), (oc1 oC iC_nodes iC_words iC_chances iC_unsures iC_slips iC_throneNode iC_saidWorth iC_unit rC_kind rC_parts rC_partNodes rC_weights rC_weightSums rC_toldWorths rC_steps rC_below rC_above rC_unsureWords rC_unsureWorths), (arI rC_kind kC_kind 18 fC_kind), (arI rC_parts kC_parts 18 fC_parts), (arI rC_partNodes kC_partNodes 72 fC_partNodes), (arI rC_weights kC_weights 72 fC_weights), (arI rC_weightSums kC_weightSums 18 fC_weightSums), (arI rC_unsureWords kC_unsureWords 4 fC_unsureWords), (arI rC_unsureWorths kC_unsureWorths 4 fC_unsureWorths), (arI rW kW 18 fW)] [(kL_values, .int), (kL_supposed, .int), (kC_kind, .int), (kC_parts, .int), (kC_partNodes, .int), (kC_weights, .int), (kC_weightSums, .int), (kC_unsureWords, .int), (kC_unsureWorths, .int), (kW, .int)] t) (va_A [(oc4 oL rL_values rL_supposed), (arI rL_values kL_values 18 fL_values), (arI rL_supposed kL_supposed 18 fL_supposed), (oc1 oC iC_nodes iC_words iC_chances iC_unsures iC_slips iC_throneNode iC_saidWorth iC_unit rC_kind rC_parts rC_partNodes rC_weights rC_weightSums rC_toldWorths rC_steps rC_below rC_above rC_unsureWords rC_unsureWorths), (arI rC_kind kC_kind 18 fC_kind), (arI rC_parts kC_parts 18 fC_parts), (arI rC_partNodes kC_partNodes 72 fC_partNodes), (arI rC_weights kC_weights 72 fC_weights), (arI rC_weightSums kC_weightSums 18 fC_weightSums), (arI rC_unsureWords kC_unsureWords 4 fC_unsureWords), (arI rC_unsureWorths kC_unsureWorths 4 fC_unsureWorths), (arI rW kW 18 fW)] sz)) 0 0 (va_A [(oc4 oL rL_values rL_supposed), (arI rL_values kL_values 18 fL_values), (arI rL_supposed kL_supposed 18 fL_supposed), (oc1 oC iC_nodes iC_words iC_chances iC_unsures iC_slips iC_throneNode iC_saidWorth iC_unit rC_kind rC_parts rC_partNodes rC_weights rC_weightSums rC_toldWorths rC_steps rC_below rC_above rC_unsureWords rC_unsureWorths), (arI rC_kind kC_kind 18 fC_kind), (arI rC_parts kC_parts 18 fC_parts), (arI rC_partNodes kC_partNodes 72 fC_partNodes), (arI rC_weights kC_weights 72 fC_weights), (arI rC_weightSums kC_weightSums 18 fC_weightSums), (arI rC_unsureWords kC_unsureWords 4 fC_unsureWords), (arI rC_unsureWorths kC_unsureWorths 4 fC_unsureWorths), (arI rW kW 18 fW)] sz) := by
  refine Met.ofW (cc := cX4_throneByUnsure) (maxL := 5) (ret := (some .int)) pnX4 rfl ?_
  intro p e s m args below meth c s₁ B hml hv
  obtain ⟨rfl, hsz, hP, hK, hD0, hE⟩ := hv
  have hx := B.exec
  have hb := B.bytes
  have hr := B.returns
  have hts : ∀ w ∈ wG, w.before ([.ref oL, .ref oC, .ref rW, .int p0] : List Value).toArray s = true := fun w h => atoms_spec (ws := Cond.code yX4_throneByUnsure cX4_throneByUnsure 5 (some .int) :: wG) B.pre w (List.mem_cons_of_mem _ h)
  have hown : s.vm.findClass RX4 = some m.cls := own_of B.named rfl
  have hlocks := B.notSynchronized
  subst hsz
  have hD := hD0.self (sz := s.heap.size)
  generalize hAe : va_A [(oc4 oL rL_values rL_supposed), (arI rL_values kL_values 18 fL_values), (arI rL_supposed kL_supposed 18 fL_supposed), (oc1 oC iC_nodes iC_words iC_chances iC_unsures iC_slips iC_throneNode iC_saidWorth iC_unit rC_kind rC_parts rC_partNodes rC_weights rC_weightSums rC_toldWorths rC_steps rC_below rC_above rC_unsureWords rC_unsureWorths), (arI rC_kind kC_kind 18 fC_kind), (arI rC_parts kC_parts 18 fC_parts), (arI rC_partNodes kC_partNodes 72 fC_partNodes), (arI rC_weights kC_weights 72 fC_weights), (arI rC_weightSums kC_weightSums 18 fC_weightSums), (arI rC_unsureWords kC_unsureWords 4 fC_unsureWords), (arI rC_unsureWorths kC_unsureWorths 4 fC_unsureWorths), (arI rW kW 18 fW)] s.heap.size = A at hD hE ⊢
  have hA : ∀ q : Nat, s.heap.size ≤ q → A q := fun q h => by rw [← hAe]; exact Or.inr h
  have hS : va_S A s.heap s.heap [] := va_S.rf
  have hl := lv_entry ([.ref oL, .ref oC, .ref rW, .int p0]) (n := 5) (Nat.le_of_ble_eq_true rfl)
  rw [lg_entry_eq]
  generalize (lg_sl ([.ref oL, .ref oC, .ref rW, .int p0]) ++ List.replicate (5 - (lg_sl ([.ref oL, .ref oC, .ref rW, .int p0])).length) Slot.unset).toArray = ls at hl ⊢
  have hl : lv_has ls 5 [(0, .ref oL), (1, .ref oC), (2, .ref rW), (3, .int p0)] := hl
  have rg_p0 := fb_rng p0
  refine lv_aload_n hx hb dX4_throneByUnsure_0 rfl (lv_at hl 2 rfl) ?_
  refine lv_iconst (v := 0) hx hb dX4_throneByUnsure_1 (by decide) ?_
  refine lv_aload_n hx hb dX4_throneByUnsure_2 rfl (lv_at hl 0 rfl) ?_
  refine va_get (D := (dC, dI)) (ci := 4) (v := .ref rL_supposed) (C := RX4) (T := TX4) (N := 2) hx hb hts inX4 hown hK hP 0 rfl rfl 1 (by decide) (hts _ wd_147) (fun _ h9 => h9) rfl dX4_throneByUnsure_3 ?_
  refine lv_iconst (v := 0) hx hb dX4_throneByUnsure_6 (by decide) ?_
  refine lv_bipush (v := 18) hx hb dX4_throneByUnsure_7 (by decide) ?_
  refine vz_copyi hx hb (hml.trans hl.1.symm) hown (hts _ wd_1134) (hts _ wd_1016) (hts _ wd_1017) (hts _ wd_1018) hK hP hD hS 11 2 9 1 rfl rfl rfl rfl (k := 18) (by decide) (by decide) (Nat.le_of_ble_eq_true rfl) (Nat.le_of_ble_eq_true (by decide +kernel)) dX4_throneByUnsure_9 (fun H locs f_951 c_f_951 hP hD hS => ?_)
  obtain ⟨hP, hD⟩ := wl2 (ws' := [(oc4 oL rL_values rL_supposed), (arI rL_values kL_values 18 fL_values), (arI rL_supposed kL_supposed 18 f_951), (oc1 oC iC_nodes iC_words iC_chances iC_unsures iC_slips iC_throneNode iC_saidWorth iC_unit rC_kind rC_parts rC_partNodes rC_weights rC_weightSums rC_toldWorths rC_steps rC_below rC_above rC_unsureWords rC_unsureWorths), (arI rC_kind kC_kind 18 fC_kind), (arI rC_parts kC_parts 18 fC_parts), (arI rC_partNodes kC_partNodes 72 fC_partNodes), (arI rC_weights kC_weights 72 fC_weights), (arI rC_weightSums kC_weightSums 18 fC_weightSums), (arI rC_unsureWords kC_unsureWords 4 fC_unsureWords), (arI rC_unsureWorths kC_unsureWorths 4 fC_unsureWorths), (arI rW kW 18 fW)]) hP hD rfl
  refine lv_iconst (v := 0) hx hb dX4_throneByUnsure_12 (by decide) ?_
  refine lv_istore (lv' := [(4, .int 0), (0, .ref oL), (1, .ref oC), (2, .ref rW), (3, .int p0)]) hx hb dX4_throneByUnsure_13 hl (by decide) rfl (fun ls hl => ?_)
  have hl := lv_sub hl (l' := [(4, .int 0), (0, .ref oL), (1, .ref oC), (2, .ref rW), (3, .int p0)]) [0, 1, 2, 3, 4] rfl
  have key_n_954 : ∀ (n_954 : Nat) (z_952 : Int32) (f_953 : Nat → Int32) (H : Heap) (locs : List Loc) (ls : Array Slot), (0 ≤ z_952.toInt ∧ z_952.toInt ≤ 2147483647) → (2147483647 - z_952.toInt).toNat < n_954 → va_P (dC, dI) vwCl [(oc4 oL rL_values rL_supposed), (arI rL_values kL_values 18 fL_values), (arI rL_supposed kL_supposed 18 f_953), (oc1 oC iC_nodes iC_words iC_chances iC_unsures iC_slips iC_throneNode iC_saidWorth iC_unit rC_kind rC_parts rC_partNodes rC_weights rC_weightSums rC_toldWorths rC_steps rC_below rC_above rC_unsureWords rC_unsureWorths), (arI rC_kind kC_kind 18 fC_kind), (arI rC_parts kC_parts 18 fC_parts), (arI rC_partNodes kC_partNodes 72 fC_partNodes), (arI rC_weights kC_weights 72 fC_weights), (arI rC_weightSums kC_weightSums 18 fC_weightSums), (arI rC_unsureWords kC_unsureWords 4 fC_unsureWords), (arI rC_unsureWorths kC_unsureWorths 4 fC_unsureWorths), (arI rW kW 18 fW)] H → va_D A [(oc4 oL rL_values rL_supposed), (arI rL_values kL_values 18 fL_values), (arI rL_supposed kL_supposed 18 f_953), (oc1 oC iC_nodes iC_words iC_chances iC_unsures iC_slips iC_throneNode iC_saidWorth iC_unit rC_kind rC_parts rC_partNodes rC_weights rC_weightSums rC_toldWorths rC_steps rC_below rC_above rC_unsureWords rC_unsureWorths), (arI rC_kind kC_kind 18 fC_kind), (arI rC_parts kC_parts 18 fC_parts), (arI rC_partNodes kC_partNodes 72 fC_partNodes), (arI rC_weights kC_weights 72 fC_weights), (arI rC_weightSums kC_weightSums 18 fC_weightSums), (arI rC_unsureWords kC_unsureWords 4 fC_unsureWords), (arI rC_unsureWorths kC_unsureWorths 4 fC_unsureWorths), (arI rW kW 18 fW)] → va_S A s.heap H locs → lv_has ls 5 [(4, .int z_952), (0, .ref oL), (1, .ref oC), (2, .ref rW), (3, .int p0)] → W p l e (headSpec (Cond.code yX4_throneByUnsure cX4_throneByUnsure 5 (some .int) :: wG) ({ frames := 3, cells := 0, slots := 0, locals := 71 })).room s m ([.ref oL, .ref oC, .ref rW, .int p0] : List Value).toArray below meth c H locs 0 0 (MQ below (va_Qi (fun (r : Int32) (_ : Nat) => True ∧ True) (fun (_ : Nat) (t : State) => ∃ (nfL_values : Nat → Int32) (nfL_supposed : Nat → Int32), Bw dC dI A [(oc4 oL rL_values rL_supposed), (arI rL_values kL_values 18 nfL_values), (arI rL_supposed kL_supposed 18 nfL_supposed), (oc1 oC iC_nodes iC_words iC_chances iC_unsures iC_slips iC_throneNode iC_saidWorth iC_unit rC_kind rC_parts rC_partNodes rC_weights rC_weightSums rC_toldWorths rC_steps rC_below rC_above rC_unsureWords rC_unsureWorths), (arI rC_kind kC_kind 18 fC_kind), (arI rC_parts kC_parts 18 fC_parts), (arI rC_partNodes kC_partNodes 72 fC_partNodes), (arI rC_weights kC_weights 72 fC_weights), (arI rC_weightSums kC_weightSums 18 fC_weightSums), (arI rC_unsureWords kC_unsureWords 4 fC_unsureWords), (arI rC_unsureWorths kC_unsureWorths 4 fC_unsureWorths), (arI rW kW 18 fW)] [(kL_values, .int), (kL_supposed, .int), (kC_kind, .int), (kC_parts, .int), (kC_partNodes, .int), (kC_weights, .int), (kC_weightSums, .int), (kC_unsureWords, .int), (kC_unsureWorths, .int), (kW, .int)] t) A) ([.ref oL, .ref oC, .ref rW, .int p0] : List Value).toArray s 0 0 A) (F0 m 15 ls []) := by
    intro n_954
    induction n_954 with
    | zero => intro z_952 f_953 H locs ls hi0_n_954 hm; exact absurd hm (Nat.not_lt_zero _)
    | succ n_954 ih_n_954 =>
      intro z_952 f_953 H locs ls hi0_n_954 hm_n_954 hP hD hS hl
      have rg_z_952 := fb_rng z_952
      refine lv_iload hx hb dX4_throneByUnsure_15 (lv_at hl 0 rfl) ?_
      refine lv_aload_n hx hb dX4_throneByUnsure_17 rfl (lv_at hl 2 rfl) ?_
      refine va_get (D := (dC, dI)) (ci := 1) (v := .int iC_unsures) (C := RX1) (T := TX1) (N := 19) hx hb hts inX1 hown hK hP 3 rfl rfl 3 (by decide) (hts _ wd_1173) (fun _ h9 => h9) rfl dX4_throneByUnsure_18 ?_
      have rg_iC_unsures := fb_rng iC_unsures
      refine lv_icmp_ge (tgt := 59) hx hb dX4_throneByUnsure_21 (by decide) (fun c_955 => ?_) (fun c_955 => ?_)
      · skip
        have gc_955 := ti_le c_955 rfl rfl
        refine lv_aload_n hx hb dX4_throneByUnsure_59 rfl (lv_at hl 1 rfl) ?_
        refine lv_aload_n hx hb dX4_throneByUnsure_60 rfl (lv_at hl 2 rfl) ?_
        refine lv_aload_n hx hb dX4_throneByUnsure_61 rfl (lv_at hl 1 rfl) ?_
        refine va_get (D := (dC, dI)) (ci := 4) (v := .ref rL_supposed) (C := RX4) (T := TX4) (N := 2) hx hb hts inX4 hown hK hP 0 rfl rfl 1 (by decide) (hts _ wd_147) (fun _ h9 => h9) rfl dX4_throneByUnsure_62 ?_
        have hFc := va_free (wc := [(oc4 oL rL_values rL_supposed), (arI rL_values kL_values 18 fL_values), (oc1 oC iC_nodes iC_words iC_chances iC_unsures iC_slips iC_throneNode iC_saidWorth iC_unit rC_kind rC_parts rC_partNodes rC_weights rC_weightSums rC_toldWorths rC_steps rC_below rC_above rC_unsureWords rC_unsureWorths), (arI rC_kind kC_kind 18 fC_kind), (arI rC_parts kC_parts 18 fC_parts), (arI rC_partNodes kC_partNodes 72 fC_partNodes), (arI rC_weights kC_weights 72 fC_weights), (arI rC_weightSums kC_weightSums 18 fC_weightSums), (arI rL_supposed kL_supposed 18 f_953)]) hD hS hA [0, 1, 3, 4, 5, 6, 7, 8, 2] rfl
        refine va_calli (va_runV (As := [.ref oC, .ref rL_supposed]) (rest := []) ⟨hx, hb, hml, hown, hts⟩ (tX4_weighAll l dC dI _ oL rL_values fL_values kL_values rL_supposed oC iC_nodes iC_words iC_chances iC_unsures iC_slips iC_throneNode iC_saidWorth iC_unit rC_kind fC_kind kC_kind rC_parts fC_parts kC_parts rC_partNodes fC_partNodes kC_partNodes rC_weights fC_weights kC_weights rC_weightSums fC_weightSums kC_weightSums rC_toldWorths rC_steps rC_below rC_above rC_unsureWords rC_unsureWorths rL_supposed f_953 kL_supposed b_iC_nodes b_iC_unsures b_iC_throneNode a_fC_parts a_fC_partNodes) (cwV 2 hts (wd_V wd_949 wd_613 wd_614 wd_37 (wd_c wd_615)) rfl rfl rfl dv_yX4_weighAll_2 ⟨Nat.le_of_ble_eq_true rfl, Nat.le_of_ble_eq_true rfl⟩) ⟨Pw.fb, recvX4 hK hP (q0 := 0) rfl, fun U hU hW => Pw.to (hP.sub [0, 1, 3, 4, 5, 6, 7, 8, 2] rfl) (hD.sub [0, 1, 3, 4, 5, 6, 7, 8, 2] (by decide) rfl) (hK.sub [0, 2, 3, 4, 5, 6, 1] rfl) hE hS hFc hU hW⟩ rfl rfl hl.1 rfl (lv_room (Nat.le_of_ble_eq_true rfl)) dX4_throneByUnsure_65 ⟨Nat.le_of_ble_eq_true rfl, Nat.le_of_ble_eq_true rfl⟩) hS (fun q _ h => hFc q h) hFc (fun r u t H locs ht hvm hw hB hz1 hk1 hS => ?_)
        have hru9 := hw.2
        have hw := hw.1
        refine ex_1_1 hB (fun f_956 e_f_956_0 hB => ?_)
        obtain ⟨hP, hD, hK⟩ := Bw.go (ws' := [(arI rC_unsureWords kC_unsureWords 4 fC_unsureWords), (arI rC_unsureWorths kC_unsureWorths 4 fC_unsureWorths), (arI rW kW 18 fW), (oc4 oL rL_values rL_supposed), (arI rL_values kL_values 18 f_956), (oc1 oC iC_nodes iC_words iC_chances iC_unsures iC_slips iC_throneNode iC_saidWorth iC_unit rC_kind rC_parts rC_partNodes rC_weights rC_weightSums rC_toldWorths rC_steps rC_below rC_above rC_unsureWords rC_unsureWorths), (arI rC_kind kC_kind 18 fC_kind), (arI rC_parts kC_parts 18 fC_parts), (arI rC_partNodes kC_partNodes 72 fC_partNodes), (arI rC_weights kC_weights 72 fC_weights), (arI rC_weightSums kC_weightSums 18 fC_weightSums), (arI rL_supposed kL_supposed 18 f_953)]) (tys' := [(kC_unsureWords, .int), (kC_unsureWorths, .int), (kW, .int), (kL_values, .int), (kC_kind, .int), (kC_parts, .int), (kC_partNodes, .int), (kC_weights, .int), (kC_weightSums, .int), (kL_supposed, .int)]) hB rfl ht hvm hP hD hK [0, 1, 3, 4, 5, 6, 7, 8, 2] [9, 10, 11] rfl (by decide) (by decide) [7, 8, 9] hk1 hFc rfl rfl rfl
        clear hz1 hk1 hvm ht hB
        obtain ⟨x_957, rfl⟩ : ∃ z, z = r := ⟨_, rfl⟩
        have rg_x_957 := fb_rng x_957
        exact wq_i hx hb hr 0 ⟨trivial, trivial⟩ (fun t ht hW => ⟨f_956, f_953, Bw.to (hP.sub [3, 4, 11, 5, 6, 7, 8, 9, 10, 0, 1, 2] rfl) (hD.sub [3, 4, 11, 5, 6, 7, 8, 9, 10, 0, 1, 2] (by decide) rfl) (hK.sub [3, 9, 4, 5, 6, 7, 8, 0, 1, 2] rfl) ht hW⟩) hS dX4_throneByUnsure_68 hlocks
      · skip
        have gc_955 := ti_nle c_955 rfl rfl
        refine lv_iload_n hx hb dX4_throneByUnsure_24 rfl (lv_at hl 4 rfl) ?_
        refine lv_iload hx hb dX4_throneByUnsure_25 (lv_at hl 0 rfl) ?_
        refine lv_ishr hx hb dX4_throneByUnsure_27 ?_
        refine lv_topi (fun x_958 ex_958 => ?_)
        have rg_x_958 := fb_rng x_958
        refine lv_iconst (v := 1) hx hb dX4_throneByUnsure_28 (by decide) ?_
        refine lv_iand hx hb dX4_throneByUnsure_29 ?_
        refine lv_topi (fun x_959 ex_959 => ?_)
        have rg_x_959 := fb_rng x_959
        refine lv_iconst (v := 1) hx hb dX4_throneByUnsure_30 (by decide) ?_
        refine lv_icmp_ne (tgt := 53) hx hb dX4_throneByUnsure_31 (by decide) (fun c_960 => ?_) (fun c_960 => ?_)
        · skip
          have gc_960 := ti_ne c_960 rfl kc_1
          obtain ⟨x_961, ex_961⟩ : ∃ z : Int32, z = z_952 + Int32.ofInt 1 := ⟨_, rfl⟩
          have vx_961 : x_961.toInt = z_952.toInt + 1 := ti_add (y := 1) ex_961 rfl kc_1 (om_4e4fce7e hi0_n_954.1) (om_0ca29412 b_iC_unsures.2 gc_955)
          refine lv_iinc (v := x_961) (lv' := [(4, .int x_961), (0, .ref oL), (1, .ref oC), (2, .ref rW), (3, .int p0)]) hx hb dX4_throneByUnsure_53 hl (k := 0) rfl ex_961.symm (by decide) rfl (fun ls hl => ?_)
          refine lv_goto (tgt := 15) hx hb dX4_throneByUnsure_56 (by decide) ?_
          exact ih_n_954 x_961 f_953 _ _ _  ⟨(om_83b90de5 hi0_n_954.1 vx_961), (om_008057e4 b_iC_unsures.2 gc_955 vx_961)⟩ (ms_lt hm_n_954 (om_b9393183 vx_961) (om_349eab4e b_iC_unsures.2 gc_955)) hP hD hS (lv_sub hl [0, 1, 2, 3, 4] rfl)
        · skip
          have gc_960 := ti_eq c_960 rfl kc_1
          refine lv_aload_n hx hb dX4_throneByUnsure_34 rfl (lv_at hl 1 rfl) ?_
          refine va_get (D := (dC, dI)) (ci := 4) (v := .ref rL_supposed) (C := RX4) (T := TX4) (N := 2) hx hb hts inX4 hown hK hP 0 rfl rfl 1 (by decide) (hts _ wd_147) (fun _ h9 => h9) rfl dX4_throneByUnsure_35 ?_
          refine lv_aload_n hx hb dX4_throneByUnsure_38 rfl (lv_at hl 2 rfl) ?_
          refine va_get (D := (dC, dI)) (ci := 1) (v := .ref rC_unsureWords) (C := RX1) (T := TX1) (N := 19) hx hb hts inX1 hown hK hP 3 rfl rfl 17 (by decide) (hts _ wd_1174) (fun _ h9 => h9) rfl dX4_throneByUnsure_39 ?_
          refine lv_iload hx hb dX4_throneByUnsure_42 (lv_at hl 0 rfl) ?_
          refine va_iald hx hb hK hP 9 7 rfl rfl (ti_in rfl hi0_n_954.1 (om_2470ff38 b_iC_unsures.2 gc_955)) dX4_throneByUnsure_44 ?_
          refine lv_topi (fun x_962 ex_962 => ?_)
          have rg_x_962 := fb_rng x_962
          have kx_962 : (fC_unsureWords z_952.toNatClampNeg).toInt = x_962.toInt := by rw [ex_962]
          have ux_962 := a_fC_unsureWords z_952.toNatClampNeg (cl_lt rfl hi0_n_954.1 (om_2470ff38 b_iC_unsures.2 gc_955))
          rw [show fC_unsureWords z_952.toNatClampNeg = x_962 from ex_962.symm] at ux_962
          refine lv_aload_n hx hb dX4_throneByUnsure_45 rfl (lv_at hl 2 rfl) ?_
          refine va_get (D := (dC, dI)) (ci := 1) (v := .ref rC_unsureWorths) (C := RX1) (T := TX1) (N := 19) hx hb hts inX1 hown hK hP 3 rfl rfl 18 (by decide) (hts _ wd_1175) (fun _ h9 => h9) rfl dX4_throneByUnsure_46 ?_
          refine lv_iload hx hb dX4_throneByUnsure_49 (lv_at hl 0 rfl) ?_
          refine va_iald hx hb hK hP 10 8 rfl rfl (ti_in rfl hi0_n_954.1 (om_2470ff38 b_iC_unsures.2 gc_955)) dX4_throneByUnsure_51 ?_
          refine lv_topi (fun x_963 ex_963 => ?_)
          have rg_x_963 := fb_rng x_963
          have kx_963 : (fC_unsureWorths z_952.toNatClampNeg).toInt = x_963.toInt := by rw [ex_963]
          refine vz_iast hx hb hK hP hD hS 2 1 rfl rfl (ti_in rfl ux_962.1 (om_b3735a34 ux_962.2)) dX4_throneByUnsure_52 (fun H locs f_964 hP hD hS => ?_)
          obtain ⟨hP, hD⟩ := wl2 (ws' := [(oc4 oL rL_values rL_supposed), (arI rL_values kL_values 18 fL_values), (arI rL_supposed kL_supposed 18 f_964), (oc1 oC iC_nodes iC_words iC_chances iC_unsures iC_slips iC_throneNode iC_saidWorth iC_unit rC_kind rC_parts rC_partNodes rC_weights rC_weightSums rC_toldWorths rC_steps rC_below rC_above rC_unsureWords rC_unsureWorths), (arI rC_kind kC_kind 18 fC_kind), (arI rC_parts kC_parts 18 fC_parts), (arI rC_partNodes kC_partNodes 72 fC_partNodes), (arI rC_weights kC_weights 72 fC_weights), (arI rC_weightSums kC_weightSums 18 fC_weightSums), (arI rC_unsureWords kC_unsureWords 4 fC_unsureWords), (arI rC_unsureWorths kC_unsureWorths 4 fC_unsureWorths), (arI rW kW 18 fW)]) hP hD rfl
          obtain ⟨x_965, ex_965⟩ : ∃ z : Int32, z = z_952 + Int32.ofInt 1 := ⟨_, rfl⟩
          have vx_965 : x_965.toInt = z_952.toInt + 1 := ti_add (y := 1) ex_965 rfl kc_1 (om_4e4fce7e hi0_n_954.1) (om_0ca29412 b_iC_unsures.2 gc_955)
          refine lv_iinc (v := x_965) (lv' := [(4, .int x_965), (0, .ref oL), (1, .ref oC), (2, .ref rW), (3, .int p0)]) hx hb dX4_throneByUnsure_53 hl (k := 0) rfl ex_965.symm (by decide) rfl (fun ls hl => ?_)
          refine lv_goto (tgt := 15) hx hb dX4_throneByUnsure_56 (by decide) ?_
          exact ih_n_954 x_965 f_964 _ _ _  ⟨(om_83b90de5 hi0_n_954.1 vx_965), (om_008057e4 b_iC_unsures.2 gc_955 vx_965)⟩ (ms_lt hm_n_954 (om_b9393183 vx_965) (om_349eab4e b_iC_unsures.2 gc_955)) hP hD hS (lv_sub hl [0, 1, 2, 3, 4] rfl)
  exact key_n_954 (((2147483647 - (0 : Int32).toInt).toNat) + 1) 0 f_951 _ _ _  ⟨(om_b1de7dbe kc_0), (om_daf17c64 kc_0)⟩ (Nat.lt_add_one _) hP hD hS hl
set_option maxHeartbeats 4000000 in
set_option maxRecDepth 100000 in
theorem tX4_waysDown (l : Launch) (dC : Nat → ClassId) (dI : Nat → Nat → Nat) (sz : Nat) (oL : Nat) (rL_values : Nat) (fL_values : Nat → Int32) (kL_values : ClassId) (rL_supposed : Nat) (oC : Nat) (iC_nodes : Int32) (iC_words : Int32) (iC_chances : Int32) (iC_unsures : Int32) (iC_slips : Int32) (iC_throneNode : Int32) (iC_saidWorth : Int32) (iC_unit : Int32) (rC_kind : Nat) (fC_kind : Nat → Int32) (kC_kind : ClassId) (rC_parts : Nat) (fC_parts : Nat → Int32) (kC_parts : ClassId) (rC_partNodes : Nat) (fC_partNodes : Nat → Int32) (kC_partNodes : ClassId) (rC_weights : Nat) (rC_weightSums : Nat) (rC_toldWorths : Nat) (rC_steps : Nat) (rC_below : Nat) (rC_above : Nat) (rC_unsureWords : Nat) (rC_unsureWorths : Nat) (b_iC_nodes : 0 ≤ iC_nodes.toInt ∧ iC_nodes.toInt ≤ 18) (b_iC_unsures : 0 ≤ iC_unsures.toInt ∧ iC_unsures.toInt ≤ 4) (b_iC_throneNode : (-1) ≤ iC_throneNode.toInt ∧ iC_throneNode.toInt ≤ 17) (a_fC_parts : ∀ j : Nat, j < 18 → 0 ≤ (fC_parts j).toInt ∧ (fC_parts j).toInt ≤ 4) (a_fC_partNodes : ∀ j : Nat, j < 72 → 0 ≤ (fC_partNodes j).toInt ∧ (fC_partNodes j).toInt ≤ 17)  : Met l yX4_waysDown (Cond.code yX4_waysDown cX4_waysDown 4 (some .int) :: wG) ({ frames := 2, cells := 0, slots := 0, locals := 42 }) (va_Pc [.ref oL, .ref oC] (Pw dC dI sz [(oc4 oL rL_values rL_supposed), (arI rL_values kL_values 18 fL_values), (oc1 oC iC_nodes iC_words iC_chances iC_unsures iC_slips iC_throneNode iC_saidWorth iC_unit rC_kind rC_parts rC_partNodes rC_weights rC_weightSums rC_toldWorths rC_steps rC_below rC_above rC_unsureWords rC_unsureWorths), (arI rC_kind kC_kind 18 fC_kind), (arI rC_parts kC_parts 18 fC_parts), (arI rC_partNodes kC_partNodes 72 fC_partNodes)] [(kL_values, .int), (kC_kind, .int), (kC_parts, .int), (kC_partNodes, .int)])) (va_Qi (fun (r : Int32) (u : Nat) => (True ∧ True) ∧ r = Int32.ofNat u) (fun (u : Nat) (t : State) => ∃ (nfL_values : Nat → Int32), (PX4_waysDown fL_values iC_nodes iC_throneNode fC_kind fC_parts fC_partNodes = (Int32.ofNat u, nfL_values)) ∧ Bw dC dI (va_A [(oc4 oL rL_values rL_supposed), (arI rL_values kL_values 18 fL_values), (oc1 oC iC_nodes iC_words iC_chances iC_unsures iC_slips iC_throneNode iC_saidWorth iC_unit rC_kind rC_parts rC_partNodes rC_weights rC_weightSums rC_toldWorths rC_steps rC_below rC_above rC_unsureWords rC_unsureWorths), (arI rC_kind kC_kind 18 fC_kind), (arI rC_parts kC_parts 18 fC_parts), (arI rC_partNodes kC_partNodes 72 fC_partNodes)] sz) [(oc4 oL rL_values rL_supposed), (arI rL_values kL_values 18 nfL_values), (oc1 oC iC_nodes iC_words iC_chances iC_unsures iC_slips iC_throneNode iC_saidWorth iC_unit rC_kind rC_parts rC_partNodes rC_weights rC_weightSums rC_toldWorths rC_steps rC_below rC_above rC_unsureWords rC_unsureWorths), (arI rC_kind kC_kind 18 fC_kind), (arI rC_parts kC_parts 18 fC_parts), (arI rC_partNodes kC_partNodes 72 fC_partNodes)] [(kL_values, .int), (kC_kind, .int), (kC_parts, .int), (kC_partNodes, .int)] t) (va_A [(oc4 oL rL_values rL_supposed), (arI rL_values kL_values 18 fL_values), (oc1 oC iC_nodes iC_words iC_chances iC_unsures iC_slips iC_throneNode iC_saidWorth iC_unit rC_kind rC_parts rC_partNodes rC_weights rC_weightSums rC_toldWorths rC_steps rC_below rC_above rC_unsureWords rC_unsureWorths), (arI rC_kind kC_kind 18 fC_kind), (arI rC_parts kC_parts 18 fC_parts), (arI rC_partNodes kC_partNodes 72 fC_partNodes)] sz)) 0 0 (va_A [(oc4 oL rL_values rL_supposed), (arI rL_values kL_values 18 fL_values), (oc1 oC iC_nodes iC_words iC_chances iC_unsures iC_slips iC_throneNode iC_saidWorth iC_unit rC_kind rC_parts rC_partNodes rC_weights rC_weightSums rC_toldWorths rC_steps rC_below rC_above rC_unsureWords rC_unsureWorths), (arI rC_kind kC_kind 18 fC_kind), (arI rC_parts kC_parts 18 fC_parts), (arI rC_partNodes kC_partNodes 72 fC_partNodes)] sz) := by
  refine Met.ofW (cc := cX4_waysDown) (maxL := 4) (ret := (some .int)) pnX4 rfl ?_
  intro p e s m args below meth c s₁ B hml hv
  obtain ⟨rfl, hsz, hP, hK, hD0, hE⟩ := hv
  have hx := B.exec
  have hb := B.bytes
  have hr := B.returns
  have hts : ∀ w ∈ wG, w.before ([.ref oL, .ref oC] : List Value).toArray s = true := fun w h => atoms_spec (ws := Cond.code yX4_waysDown cX4_waysDown 4 (some .int) :: wG) B.pre w (List.mem_cons_of_mem _ h)
  have hown : s.vm.findClass RX4 = some m.cls := own_of B.named rfl
  have hlocks := B.notSynchronized
  subst hsz
  have hD := hD0.self (sz := s.heap.size)
  generalize hAe : va_A [(oc4 oL rL_values rL_supposed), (arI rL_values kL_values 18 fL_values), (oc1 oC iC_nodes iC_words iC_chances iC_unsures iC_slips iC_throneNode iC_saidWorth iC_unit rC_kind rC_parts rC_partNodes rC_weights rC_weightSums rC_toldWorths rC_steps rC_below rC_above rC_unsureWords rC_unsureWorths), (arI rC_kind kC_kind 18 fC_kind), (arI rC_parts kC_parts 18 fC_parts), (arI rC_partNodes kC_partNodes 72 fC_partNodes)] s.heap.size = A at hD hE ⊢
  have hA : ∀ q : Nat, s.heap.size ≤ q → A q := fun q h => by rw [← hAe]; exact Or.inr h
  have hS : va_S A s.heap s.heap [] := va_S.rf
  have hl := lv_entry ([.ref oL, .ref oC]) (n := 4) (Nat.le_of_ble_eq_true rfl)
  rw [lg_entry_eq]
  generalize (lg_sl ([.ref oL, .ref oC]) ++ List.replicate (4 - (lg_sl ([.ref oL, .ref oC])).length) Slot.unset).toArray = ls at hl ⊢
  have hl : lv_has ls 4 [(0, .ref oL), (1, .ref oC)] := hl
  have hG := PX4_waysDown_eq fL_values iC_nodes iC_throneNode fC_kind fC_parts fC_partNodes
  refine lv_iconst (v := 0) hx hb dX4_waysDown_0 (by decide) ?_
  refine lv_istore_n (lv' := [(2, .int 0), (0, .ref oL), (1, .ref oC)]) hx hb dX4_waysDown_1 rfl hl (by decide) rfl (fun ls hl => ?_)
  have hl := lv_sub hl (l' := [(2, .int 0), (0, .ref oL), (1, .ref oC)]) [0, 1, 2] rfl
  have key_n_1038 : ∀ (n_1038 : Nat) (z_1036 : Int32) (f_1037 : Nat → Int32) (H : Heap) (locs : List Loc) (ls : Array Slot), (0 ≤ z_1036.toInt ∧ z_1036.toInt ≤ 2147483647) → (2147483647 - z_1036.toInt).toNat < n_1038 → (PX4_waysDown fL_values iC_nodes iC_throneNode fC_kind fC_parts fC_partNodes = HX4_waysDown_0 iC_nodes iC_throneNode fC_kind fC_parts fC_partNodes n_1038 z_1036 f_1037) → va_P (dC, dI) vwCl [(oc4 oL rL_values rL_supposed), (arI rL_values kL_values 18 f_1037), (oc1 oC iC_nodes iC_words iC_chances iC_unsures iC_slips iC_throneNode iC_saidWorth iC_unit rC_kind rC_parts rC_partNodes rC_weights rC_weightSums rC_toldWorths rC_steps rC_below rC_above rC_unsureWords rC_unsureWorths), (arI rC_kind kC_kind 18 fC_kind), (arI rC_parts kC_parts 18 fC_parts), (arI rC_partNodes kC_partNodes 72 fC_partNodes)] H → va_D A [(oc4 oL rL_values rL_supposed), (arI rL_values kL_values 18 f_1037), (oc1 oC iC_nodes iC_words iC_chances iC_unsures iC_slips iC_throneNode iC_saidWorth iC_unit rC_kind rC_parts rC_partNodes rC_weights rC_weightSums rC_toldWorths rC_steps rC_below rC_above rC_unsureWords rC_unsureWorths), (arI rC_kind kC_kind 18 fC_kind), (arI rC_parts kC_parts 18 fC_parts), (arI rC_partNodes kC_partNodes 72 fC_partNodes)] → va_S A s.heap H locs → lv_has ls 4 [(2, .int z_1036), (0, .ref oL), (1, .ref oC)] → W p l e (headSpec (Cond.code yX4_waysDown cX4_waysDown 4 (some .int) :: wG) ({ frames := 2, cells := 0, slots := 0, locals := 42 })).room s m ([.ref oL, .ref oC] : List Value).toArray below meth c H locs 0 0 (MQ below (va_Qi (fun (r : Int32) (u : Nat) => (True ∧ True) ∧ r = Int32.ofNat u) (fun (u : Nat) (t : State) => ∃ (nfL_values : Nat → Int32), (PX4_waysDown fL_values iC_nodes iC_throneNode fC_kind fC_parts fC_partNodes = (Int32.ofNat u, nfL_values)) ∧ Bw dC dI A [(oc4 oL rL_values rL_supposed), (arI rL_values kL_values 18 nfL_values), (oc1 oC iC_nodes iC_words iC_chances iC_unsures iC_slips iC_throneNode iC_saidWorth iC_unit rC_kind rC_parts rC_partNodes rC_weights rC_weightSums rC_toldWorths rC_steps rC_below rC_above rC_unsureWords rC_unsureWorths), (arI rC_kind kC_kind 18 fC_kind), (arI rC_parts kC_parts 18 fC_parts), (arI rC_partNodes kC_partNodes 72 fC_partNodes)] [(kL_values, .int), (kC_kind, .int), (kC_parts, .int), (kC_partNodes, .int)] t) A) ([.ref oL, .ref oC] : List Value).toArray s 0 0 A) (F0 m 2 ls []) := by
    intro n_1038
    induction n_1038 with
    | zero => intro z_1036 f_1037 H locs ls hi0_n_1038 hm; exact absurd hm (Nat.not_lt_zero _)
    | succ n_1038 ih_n_1038 =>
      intro z_1036 f_1037 H locs ls hi0_n_1038 hm_n_1038 hG hP hD hS hl
      have hG := hG.trans (HX4_waysDown_0_eq _ _ _ _ _ _ _ _)
      have rg_z_1036 := fb_rng z_1036
      refine lv_iload_n hx hb dX4_waysDown_2 rfl (lv_at hl 0 rfl) ?_
      refine lv_aload_n hx hb dX4_waysDown_3 rfl (lv_at hl 2 rfl) ?_
      refine va_get (D := (dC, dI)) (ci := 1) (v := .int iC_nodes) (C := RX1) (T := TX1) (N := 19) hx hb hts inX1 hown hK hP 2 rfl rfl 0 (by decide) (hts _ wd_616) (fun _ h9 => h9) rfl dX4_waysDown_4 ?_
      have rg_iC_nodes := fb_rng iC_nodes
      refine lv_icmp_ge (tgt := 78) hx hb dX4_waysDown_7 (by decide) (fun c_1039 => ?_) (fun c_1039 => ?_)
      · skip
        have hG := hG.trans (if_pos c_1039)
        have gc_1039 := ti_le c_1039 rfl rfl
        refine lv_aload_n hx hb dX4_waysDown_78 rfl (lv_at hl 1 rfl) ?_
        refine lv_aload_n hx hb dX4_waysDown_79 rfl (lv_at hl 2 rfl) ?_
        have hMs := ml_of hD [true, true, true, false, false, false] (wc := [(oc4 oL rL_values rL_supposed), (arI rL_values kL_values 18 f_1037), (oc1 oC iC_nodes iC_words iC_chances iC_unsures iC_slips iC_throneNode iC_saidWorth iC_unit rC_kind rC_parts rC_partNodes rC_weights rC_weightSums rC_toldWorths rC_steps rC_below rC_above rC_unsureWords rC_unsureWorths)]) rfl
        have hFc := va_freeM hD hS hA _ hMs
        refine va_calli (va_runV (As := [.ref oC]) (rest := []) ⟨hx, hb, hml, hown, hts⟩ (tX4_throneValue l dC dI _ oL rL_values f_1037 kL_values rL_supposed oC iC_nodes iC_words iC_chances iC_unsures iC_slips iC_throneNode iC_saidWorth iC_unit rC_kind rC_parts rC_partNodes rC_weights rC_weightSums rC_toldWorths rC_steps rC_below rC_above rC_unsureWords rC_unsureWorths b_iC_nodes b_iC_unsures b_iC_throneNode) (cwV 1 hts (wd_V wd_629 wd_630 wd_631 wd_37 (wd_c wd_632)) rfl rfl rfl dv_yX4_throneValue_1 ⟨Nat.le_of_ble_eq_true rfl, Nat.le_of_ble_eq_true rfl⟩) ⟨Pw.fb, recvX4 hK hP (q0 := 0) rfl, fun U hU hW => Pw.to (hP.ms _ hMs) (hD.ms _ hMs) (hK.ms [true, false, false, false] rfl) hE hS hFc hU hW⟩ rfl rfl hl.1 rfl (lv_room (Nat.le_of_ble_eq_true rfl)) dX4_waysDown_80 ⟨Nat.le_of_ble_eq_true rfl, Nat.le_of_ble_eq_true rfl⟩) hS (fun q _ h => hFc q h) hFc (fun r u t H locs ht hvm hw hB hz1 hk1 hS => ?_)
        have hru9 := hw.2
        have hw := hw.1
        obtain ⟨hP, hD⟩ := Bw.goN (ws' := [(oc4 oL rL_values rL_supposed), (arI rL_values kL_values 18 f_1037), (oc1 oC iC_nodes iC_words iC_chances iC_unsures iC_slips iC_throneNode iC_saidWorth iC_unit rC_kind rC_parts rC_partNodes rC_weights rC_weightSums rC_toldWorths rC_steps rC_below rC_above rC_unsureWords rC_unsureWorths), (arI rC_kind kC_kind 18 fC_kind), (arI rC_parts kC_parts 18 fC_parts), (arI rC_partNodes kC_partNodes 72 fC_partNodes)]) hB rfl ht hP hD _ hMs hk1 hFc rfl
        clear hz1 hk1 hvm ht hB hMs
        obtain ⟨x_1040, rfl⟩ : ∃ z, z = r := ⟨_, rfl⟩
        have hG := hG.trans (lt_eq hru9.symm)
        have rg_x_1040 := fb_rng x_1040
        exact wq_i hx hb hr (cI x_1040) ⟨⟨trivial, trivial⟩, (cI_of x_1040)⟩ (fun t ht hW => ⟨f_1037, (cI_tup hG), Bw.to hP hD hK ht hW⟩) hS dX4_waysDown_83 hlocks
      · skip
        have hG := hG.trans (if_neg c_1039)
        have gc_1039 := ti_nle c_1039 rfl rfl
        refine lv_aload_n hx hb dX4_waysDown_10 rfl (lv_at hl 1 rfl) ?_
        refine va_get (D := (dC, dI)) (ci := 4) (v := .ref rL_values) (C := RX4) (T := TX4) (N := 2) hx hb hts inX4 hown hK hP 0 rfl rfl 0 (by decide) (hts _ wd_146) (fun _ h9 => h9) rfl dX4_waysDown_11 ?_
        refine lv_iload_n hx hb dX4_waysDown_14 rfl (lv_at hl 0 rfl) ?_
        refine lv_aload_n hx hb dX4_waysDown_15 rfl (lv_at hl 2 rfl) ?_
        refine va_get (D := (dC, dI)) (ci := 1) (v := .ref rC_kind) (C := RX1) (T := TX1) (N := 19) hx hb hts inX1 hown hK hP 2 rfl rfl 8 (by decide) (hts _ wd_617) (fun _ h9 => h9) rfl dX4_waysDown_16 ?_
        refine lv_iload_n hx hb dX4_waysDown_19 rfl (lv_at hl 0 rfl) ?_
        refine va_iald hx hb hK hP 3 1 rfl rfl (ti_in rfl hi0_n_1038.1 (om_97cd4a7c b_iC_nodes.2 gc_1039)) dX4_waysDown_20 ?_
        refine lv_topi (fun x_1041 ex_1041 => ?_)
        have hG := hG.trans (lt_eq ex_1041)
        have rg_x_1041 := fb_rng x_1041
        have kx_1041 : (fC_kind z_1036.toNatClampNeg).toInt = x_1041.toInt := by rw [ex_1041]
        refine lv_if_ne (tgt := 28) hx hb dX4_waysDown_21 (by decide) (fun c_1042 => ?_) (fun c_1042 => ?_)
        · skip
          have hG := hG.trans (if_neg c_1042)
          have gc_1042 := ti_ne c_1042 rfl kc_0
          refine lv_iconst (v := 0) hx hb dX4_waysDown_28 (by decide) ?_
          refine va_iast hx hb hK hP hD hS 1 0 rfl rfl (ti_in rfl hi0_n_1038.1 (om_97cd4a7c b_iC_nodes.2 gc_1039)) dX4_waysDown_29 (fun H locs hP hD hS => ?_)
          obtain ⟨f_1044, ef_1044⟩ : ∃ g : Nat → Int32, g = upd f_1037 z_1036.toNatClampNeg (0 : Int32) := ⟨_, rfl⟩
          rw [← ef_1044] at hP hD
          have hG := hG.trans (lt_eq ef_1044)
          obtain ⟨hP, hD⟩ := wl2 (ws' := [(oc4 oL rL_values rL_supposed), (arI rL_values kL_values 18 f_1044), (oc1 oC iC_nodes iC_words iC_chances iC_unsures iC_slips iC_throneNode iC_saidWorth iC_unit rC_kind rC_parts rC_partNodes rC_weights rC_weightSums rC_toldWorths rC_steps rC_below rC_above rC_unsureWords rC_unsureWorths), (arI rC_kind kC_kind 18 fC_kind), (arI rC_parts kC_parts 18 fC_parts), (arI rC_partNodes kC_partNodes 72 fC_partNodes)]) hP hD rfl
          refine lv_iconst (v := 0) hx hb dX4_waysDown_30 (by decide) ?_
          refine lv_istore_n (lv' := [(3, .int 0), (2, .int z_1036), (0, .ref oL), (1, .ref oC)]) hx hb dX4_waysDown_31 rfl hl (by decide) rfl (fun ls hl => ?_)
          have hl := lv_sub hl (l' := [(3, .int 0), (2, .int z_1036), (0, .ref oL), (1, .ref oC)]) [0, 1, 2, 3] rfl
          have key_n_1047 : ∀ (n_1047 : Nat) (z_1045 : Int32) (f_1046 : Nat → Int32) (H : Heap) (locs : List Loc) (ls : Array Slot), (0 ≤ z_1045.toInt ∧ z_1045.toInt ≤ 2147483647) → (2147483647 - z_1045.toInt).toNat < n_1047 → (PX4_waysDown fL_values iC_nodes iC_throneNode fC_kind fC_parts fC_partNodes = HX4_waysDown_1 fC_parts fC_partNodes z_1036 (fun (z_1036 : Int32) (f_1037 : Nat → Int32) => HX4_waysDown_0 iC_nodes iC_throneNode fC_kind fC_parts fC_partNodes n_1038 z_1036 f_1037) n_1047 z_1045 f_1046) → va_P (dC, dI) vwCl [(oc4 oL rL_values rL_supposed), (arI rL_values kL_values 18 f_1046), (oc1 oC iC_nodes iC_words iC_chances iC_unsures iC_slips iC_throneNode iC_saidWorth iC_unit rC_kind rC_parts rC_partNodes rC_weights rC_weightSums rC_toldWorths rC_steps rC_below rC_above rC_unsureWords rC_unsureWorths), (arI rC_kind kC_kind 18 fC_kind), (arI rC_parts kC_parts 18 fC_parts), (arI rC_partNodes kC_partNodes 72 fC_partNodes)] H → va_D A [(oc4 oL rL_values rL_supposed), (arI rL_values kL_values 18 f_1046), (oc1 oC iC_nodes iC_words iC_chances iC_unsures iC_slips iC_throneNode iC_saidWorth iC_unit rC_kind rC_parts rC_partNodes rC_weights rC_weightSums rC_toldWorths rC_steps rC_below rC_above rC_unsureWords rC_unsureWorths), (arI rC_kind kC_kind 18 fC_kind), (arI rC_parts kC_parts 18 fC_parts), (arI rC_partNodes kC_partNodes 72 fC_partNodes)] → va_S A s.heap H locs → lv_has ls 4 [(3, .int z_1045), (2, .int z_1036), (0, .ref oL), (1, .ref oC)] → W p l e (headSpec (Cond.code yX4_waysDown cX4_waysDown 4 (some .int) :: wG) ({ frames := 2, cells := 0, slots := 0, locals := 42 })).room s m ([.ref oL, .ref oC] : List Value).toArray below meth c H locs 0 0 (MQ below (va_Qi (fun (r : Int32) (u : Nat) => (True ∧ True) ∧ r = Int32.ofNat u) (fun (u : Nat) (t : State) => ∃ (nfL_values : Nat → Int32), (PX4_waysDown fL_values iC_nodes iC_throneNode fC_kind fC_parts fC_partNodes = (Int32.ofNat u, nfL_values)) ∧ Bw dC dI A [(oc4 oL rL_values rL_supposed), (arI rL_values kL_values 18 nfL_values), (oc1 oC iC_nodes iC_words iC_chances iC_unsures iC_slips iC_throneNode iC_saidWorth iC_unit rC_kind rC_parts rC_partNodes rC_weights rC_weightSums rC_toldWorths rC_steps rC_below rC_above rC_unsureWords rC_unsureWorths), (arI rC_kind kC_kind 18 fC_kind), (arI rC_parts kC_parts 18 fC_parts), (arI rC_partNodes kC_partNodes 72 fC_partNodes)] [(kL_values, .int), (kC_kind, .int), (kC_parts, .int), (kC_partNodes, .int)] t) A) ([.ref oL, .ref oC] : List Value).toArray s 0 0 A) (F0 m 32 ls []) := by
            intro n_1047
            induction n_1047 with
            | zero => intro z_1045 f_1046 H locs ls hi0_n_1047 hm; exact absurd hm (Nat.not_lt_zero _)
            | succ n_1047 ih_n_1047 =>
              intro z_1045 f_1046 H locs ls hi0_n_1047 hm_n_1047 hG hP hD hS hl
              have hG := hG.trans (HX4_waysDown_1_eq _ _ _ _ _ _ _)
              have rg_z_1045 := fb_rng z_1045
              refine lv_iload_n hx hb dX4_waysDown_32 rfl (lv_at hl 0 rfl) ?_
              refine lv_aload_n hx hb dX4_waysDown_33 rfl (lv_at hl 3 rfl) ?_
              refine va_get (D := (dC, dI)) (ci := 1) (v := .ref rC_parts) (C := RX1) (T := TX1) (N := 19) hx hb hts inX1 hown hK hP 2 rfl rfl 9 (by decide) (hts _ wd_623) (fun _ h9 => h9) rfl dX4_waysDown_34 ?_
              refine lv_iload_n hx hb dX4_waysDown_37 rfl (lv_at hl 1 rfl) ?_
              refine va_iald hx hb hK hP 4 2 rfl rfl (ti_in rfl hi0_n_1038.1 (om_97cd4a7c b_iC_nodes.2 gc_1039)) dX4_waysDown_38 ?_
              refine lv_topi (fun x_1048 ex_1048 => ?_)
              have hG := hG.trans (lt_eq ex_1048)
              have rg_x_1048 := fb_rng x_1048
              have kx_1048 : (fC_parts z_1036.toNatClampNeg).toInt = x_1048.toInt := by rw [ex_1048]
              have ux_1048 := a_fC_parts z_1036.toNatClampNeg (cl_lt rfl hi0_n_1038.1 (om_97cd4a7c b_iC_nodes.2 gc_1039))
              rw [show fC_parts z_1036.toNatClampNeg = x_1048 from ex_1048.symm] at ux_1048
              refine lv_icmp_ge (tgt := 72) hx hb dX4_waysDown_39 (by decide) (fun c_1049 => ?_) (fun c_1049 => ?_)
              · skip
                have hG := hG.trans (if_pos c_1049)
                have gc_1049 := ti_le c_1049 rfl rfl
                obtain ⟨x_1050, ex_1050⟩ : ∃ z : Int32, z = z_1036 + Int32.ofInt 1 := ⟨_, rfl⟩
                have hG := hG.trans (lt_eq ex_1050)
                have vx_1050 : x_1050.toInt = z_1036.toInt + 1 := ti_add (y := 1) ex_1050 rfl kc_1 (om_4e4fce7e hi0_n_1038.1) (om_a32d6481 b_iC_nodes.2 gc_1039)
                refine lv_iinc (v := x_1050) (lv' := [(2, .int x_1050), (3, .int z_1045), (0, .ref oL), (1, .ref oC)]) hx hb dX4_waysDown_72 hl (k := 1) rfl ex_1050.symm (by decide) rfl (fun ls hl => ?_)
                refine lv_goto (tgt := 2) hx hb dX4_waysDown_75 (by decide) ?_
                exact ih_n_1038 x_1050 f_1046 _ _ _  ⟨(om_83b90de5 hi0_n_1038.1 vx_1050), (om_ed8867da b_iC_nodes.2 gc_1039 vx_1050)⟩ (ms_lt hm_n_1038 (om_b9393183 vx_1050) (om_1d9fa7fb b_iC_nodes.2 gc_1039)) hG hP hD hS (lv_sub hl [0, 2, 3] rfl)
              · skip
                have hG := hG.trans (if_neg c_1049)
                have gc_1049 := ti_nle c_1049 rfl rfl
                refine lv_aload_n hx hb dX4_waysDown_42 rfl (lv_at hl 2 rfl) ?_
                refine va_get (D := (dC, dI)) (ci := 4) (v := .ref rL_values) (C := RX4) (T := TX4) (N := 2) hx hb hts inX4 hown hK hP 0 rfl rfl 0 (by decide) (hts _ wd_146) (fun _ h9 => h9) rfl dX4_waysDown_43 ?_
                refine lv_iload_n hx hb dX4_waysDown_46 rfl (lv_at hl 1 rfl) ?_
                refine lv_dup2_11 hx hb dX4_waysDown_47 rfl rfl ?_
                refine va_iald hx hb hK hP 1 0 rfl rfl (ti_in rfl hi0_n_1038.1 (om_97cd4a7c b_iC_nodes.2 gc_1039)) dX4_waysDown_48 ?_
                refine lv_topi (fun x_1051 ex_1051 => ?_)
                have hG := hG.trans (lt_eq ex_1051)
                have rg_x_1051 := fb_rng x_1051
                have kx_1051 : (f_1046 z_1036.toNatClampNeg).toInt = x_1051.toInt := by rw [ex_1051]
                refine lv_aload_n hx hb dX4_waysDown_49 rfl (lv_at hl 2 rfl) ?_
                refine va_get (D := (dC, dI)) (ci := 4) (v := .ref rL_values) (C := RX4) (T := TX4) (N := 2) hx hb hts inX4 hown hK hP 0 rfl rfl 0 (by decide) (hts _ wd_146) (fun _ h9 => h9) rfl dX4_waysDown_50 ?_
                refine lv_aload_n hx hb dX4_waysDown_53 rfl (lv_at hl 3 rfl) ?_
                refine va_get (D := (dC, dI)) (ci := 1) (v := .ref rC_partNodes) (C := RX1) (T := TX1) (N := 19) hx hb hts inX1 hown hK hP 2 rfl rfl 10 (by decide) (hts _ wd_624) (fun _ h9 => h9) rfl dX4_waysDown_54 ?_
                refine lv_iload_n hx hb dX4_waysDown_57 rfl (lv_at hl 1 rfl) ?_
                refine lv_iconst (v := 4) hx hb dX4_waysDown_58 (by decide) ?_
                refine lv_imul hx hb dX4_waysDown_59 ?_
                refine lv_topi (fun x_1052 ex_1052 => ?_)
                have hG := hG.trans (lt_eq ex_1052)
                have vx_1052 : x_1052.toInt = 4 * z_1036.toInt := by have q := ti_mul ex_1052 rfl kc_4 (by omega) (by omega); omega
                refine lv_iload_n hx hb dX4_waysDown_60 rfl (lv_at hl 0 rfl) ?_
                refine lv_iadd hx hb dX4_waysDown_61 ?_
                refine lv_topi (fun x_1053 ex_1053 => ?_)
                have hG := hG.trans (lt_eq ex_1053)
                have vx_1053 : x_1053.toInt = 4 * z_1036.toInt + z_1045.toInt := om_5d0caf0f (ti_add ex_1053 vx_1052 rfl (om_056a216f hi0_n_1038.1 hi0_n_1047.1) (om_ba7cfd31 b_iC_nodes.2 gc_1039 ux_1048.2 gc_1049))
                refine va_iald hx hb hK hP 5 3 rfl rfl (ti_in vx_1053 (om_fc2812d4 hi0_n_1038.1 hi0_n_1047.1) (om_e20cec48 b_iC_nodes.2 gc_1039 ux_1048.2 gc_1049)) dX4_waysDown_62 ?_
                refine lv_topi (fun x_1054 ex_1054 => ?_)
                have hG := hG.trans (lt_eq ex_1054)
                have rg_x_1054 := fb_rng x_1054
                have kx_1054 : (fC_partNodes x_1053.toNatClampNeg).toInt = x_1054.toInt := by rw [ex_1054]
                have ux_1054 := a_fC_partNodes x_1053.toNatClampNeg (cl_lt vx_1053 (om_fc2812d4 hi0_n_1038.1 hi0_n_1047.1) (om_e20cec48 b_iC_nodes.2 gc_1039 ux_1048.2 gc_1049))
                rw [show fC_partNodes x_1053.toNatClampNeg = x_1054 from ex_1054.symm] at ux_1054
                refine va_iald hx hb hK hP 1 0 rfl rfl (ti_in rfl ux_1054.1 (om_b3735a34 ux_1054.2)) dX4_waysDown_63 ?_
                refine lv_topi (fun x_1055 ex_1055 => ?_)
                have hG := hG.trans (lt_eq ex_1055)
                have rg_x_1055 := fb_rng x_1055
                have kx_1055 : (f_1046 x_1054.toNatClampNeg).toInt = x_1055.toInt := by rw [ex_1055]
                refine lv_iadd hx hb dX4_waysDown_64 ?_
                refine lv_topi (fun x_1056 ex_1056 => ?_)
                have hG := hG.trans (lt_eq ex_1056)
                have rg_x_1056 := fb_rng x_1056
                refine va_iast hx hb hK hP hD hS 1 0 rfl rfl (ti_in rfl hi0_n_1038.1 (om_97cd4a7c b_iC_nodes.2 gc_1039)) dX4_waysDown_65 (fun H locs hP hD hS => ?_)
                obtain ⟨f_1058, ef_1058⟩ : ∃ g : Nat → Int32, g = upd f_1046 z_1036.toNatClampNeg x_1056 := ⟨_, rfl⟩
                rw [← ef_1058] at hP hD
                have hG := hG.trans (lt_eq ef_1058)
                obtain ⟨hP, hD⟩ := wl2 (ws' := [(oc4 oL rL_values rL_supposed), (arI rL_values kL_values 18 f_1058), (oc1 oC iC_nodes iC_words iC_chances iC_unsures iC_slips iC_throneNode iC_saidWorth iC_unit rC_kind rC_parts rC_partNodes rC_weights rC_weightSums rC_toldWorths rC_steps rC_below rC_above rC_unsureWords rC_unsureWorths), (arI rC_kind kC_kind 18 fC_kind), (arI rC_parts kC_parts 18 fC_parts), (arI rC_partNodes kC_partNodes 72 fC_partNodes)]) hP hD rfl
                obtain ⟨x_1059, ex_1059⟩ : ∃ z : Int32, z = z_1045 + Int32.ofInt 1 := ⟨_, rfl⟩
                have hG := hG.trans (lt_eq ex_1059)
                have vx_1059 : x_1059.toInt = z_1045.toInt + 1 := ti_add (y := 1) ex_1059 rfl kc_1 (om_4e4fce7e hi0_n_1047.1) (om_0ca29412 ux_1048.2 gc_1049)
                refine lv_iinc (v := x_1059) (lv' := [(3, .int x_1059), (2, .int z_1036), (0, .ref oL), (1, .ref oC)]) hx hb dX4_waysDown_66 hl (k := 0) rfl ex_1059.symm (by decide) rfl (fun ls hl => ?_)
                refine lv_goto (tgt := 32) hx hb dX4_waysDown_69 (by decide) ?_
                exact ih_n_1047 x_1059 f_1058 _ _ _  ⟨(om_83b90de5 hi0_n_1047.1 vx_1059), (om_008057e4 ux_1048.2 gc_1049 vx_1059)⟩ (ms_lt hm_n_1047 (om_b9393183 vx_1059) (om_349eab4e ux_1048.2 gc_1049)) hG hP hD hS (lv_sub hl [0, 1, 2, 3] rfl)
          exact key_n_1047 (((2147483647 - (0 : Int32).toInt).toNat) + 1) 0 f_1044 _ _ _  ⟨(om_b1de7dbe kc_0), (om_daf17c64 kc_0)⟩ (Nat.lt_add_one _) hG hP hD hS hl
        · skip
          have hG := hG.trans (if_pos c_1042)
          have gc_1042 := ti_eq c_1042 rfl kc_0
          refine lv_iconst (v := 1) hx hb dX4_waysDown_24 (by decide) ?_
          refine lv_goto (tgt := 29) hx hb dX4_waysDown_25 (by decide) ?_
          refine va_iast hx hb hK hP hD hS 1 0 rfl rfl (ti_in rfl hi0_n_1038.1 (om_97cd4a7c b_iC_nodes.2 gc_1039)) dX4_waysDown_29 (fun H locs hP hD hS => ?_)
          obtain ⟨f_1061, ef_1061⟩ : ∃ g : Nat → Int32, g = upd f_1037 z_1036.toNatClampNeg (1 : Int32) := ⟨_, rfl⟩
          rw [← ef_1061] at hP hD
          have hG := hG.trans (lt_eq ef_1061)
          obtain ⟨hP, hD⟩ := wl2 (ws' := [(oc4 oL rL_values rL_supposed), (arI rL_values kL_values 18 f_1061), (oc1 oC iC_nodes iC_words iC_chances iC_unsures iC_slips iC_throneNode iC_saidWorth iC_unit rC_kind rC_parts rC_partNodes rC_weights rC_weightSums rC_toldWorths rC_steps rC_below rC_above rC_unsureWords rC_unsureWorths), (arI rC_kind kC_kind 18 fC_kind), (arI rC_parts kC_parts 18 fC_parts), (arI rC_partNodes kC_partNodes 72 fC_partNodes)]) hP hD rfl
          refine lv_iconst (v := 0) hx hb dX4_waysDown_30 (by decide) ?_
          refine lv_istore_n (lv' := [(3, .int 0), (2, .int z_1036), (0, .ref oL), (1, .ref oC)]) hx hb dX4_waysDown_31 rfl hl (by decide) rfl (fun ls hl => ?_)
          have hl := lv_sub hl (l' := [(3, .int 0), (2, .int z_1036), (0, .ref oL), (1, .ref oC)]) [0, 1, 2, 3] rfl
          have key_n_1064 : ∀ (n_1064 : Nat) (z_1062 : Int32) (f_1063 : Nat → Int32) (H : Heap) (locs : List Loc) (ls : Array Slot), (0 ≤ z_1062.toInt ∧ z_1062.toInt ≤ 2147483647) → (2147483647 - z_1062.toInt).toNat < n_1064 → (PX4_waysDown fL_values iC_nodes iC_throneNode fC_kind fC_parts fC_partNodes = HX4_waysDown_1 fC_parts fC_partNodes z_1036 (fun (z_1036 : Int32) (f_1037 : Nat → Int32) => HX4_waysDown_0 iC_nodes iC_throneNode fC_kind fC_parts fC_partNodes n_1038 z_1036 f_1037) n_1064 z_1062 f_1063) → va_P (dC, dI) vwCl [(oc4 oL rL_values rL_supposed), (arI rL_values kL_values 18 f_1063), (oc1 oC iC_nodes iC_words iC_chances iC_unsures iC_slips iC_throneNode iC_saidWorth iC_unit rC_kind rC_parts rC_partNodes rC_weights rC_weightSums rC_toldWorths rC_steps rC_below rC_above rC_unsureWords rC_unsureWorths), (arI rC_kind kC_kind 18 fC_kind), (arI rC_parts kC_parts 18 fC_parts), (arI rC_partNodes kC_partNodes 72 fC_partNodes)] H → va_D A [(oc4 oL rL_values rL_supposed), (arI rL_values kL_values 18 f_1063), (oc1 oC iC_nodes iC_words iC_chances iC_unsures iC_slips iC_throneNode iC_saidWorth iC_unit rC_kind rC_parts rC_partNodes rC_weights rC_weightSums rC_toldWorths rC_steps rC_below rC_above rC_unsureWords rC_unsureWorths), (arI rC_kind kC_kind 18 fC_kind), (arI rC_parts kC_parts 18 fC_parts), (arI rC_partNodes kC_partNodes 72 fC_partNodes)] → va_S A s.heap H locs → lv_has ls 4 [(3, .int z_1062), (2, .int z_1036), (0, .ref oL), (1, .ref oC)] → W p l e (headSpec (Cond.code yX4_waysDown cX4_waysDown 4 (some .int) :: wG) ({ frames := 2, cells := 0, slots := 0, locals := 42 })).room s m ([.ref oL, .ref oC] : List Value).toArray below meth c H locs 0 0 (MQ below (va_Qi (fun (r : Int32) (u : Nat) => (True ∧ True) ∧ r = Int32.ofNat u) (fun (u : Nat) (t : State) => ∃ (nfL_values : Nat → Int32), (PX4_waysDown fL_values iC_nodes iC_throneNode fC_kind fC_parts fC_partNodes = (Int32.ofNat u, nfL_values)) ∧ Bw dC dI A [(oc4 oL rL_values rL_supposed), (arI rL_values kL_values 18 nfL_values), (oc1 oC iC_nodes iC_words iC_chances iC_unsures iC_slips iC_throneNode iC_saidWorth iC_unit rC_kind rC_parts rC_partNodes rC_weights rC_weightSums rC_toldWorths rC_steps rC_below rC_above rC_unsureWords rC_unsureWorths), (arI rC_kind kC_kind 18 fC_kind), (arI rC_parts kC_parts 18 fC_parts), (arI rC_partNodes kC_partNodes 72 fC_partNodes)] [(kL_values, .int), (kC_kind, .int), (kC_parts, .int), (kC_partNodes, .int)] t) A) ([.ref oL, .ref oC] : List Value).toArray s 0 0 A) (F0 m 32 ls []) := by
            intro n_1064
            induction n_1064 with
            | zero => intro z_1062 f_1063 H locs ls hi0_n_1064 hm; exact absurd hm (Nat.not_lt_zero _)
            | succ n_1064 ih_n_1064 =>
              intro z_1062 f_1063 H locs ls hi0_n_1064 hm_n_1064 hG hP hD hS hl
              have hG := hG.trans (HX4_waysDown_1_eq _ _ _ _ _ _ _)
              have rg_z_1062 := fb_rng z_1062
              refine lv_iload_n hx hb dX4_waysDown_32 rfl (lv_at hl 0 rfl) ?_
              refine lv_aload_n hx hb dX4_waysDown_33 rfl (lv_at hl 3 rfl) ?_
              refine va_get (D := (dC, dI)) (ci := 1) (v := .ref rC_parts) (C := RX1) (T := TX1) (N := 19) hx hb hts inX1 hown hK hP 2 rfl rfl 9 (by decide) (hts _ wd_623) (fun _ h9 => h9) rfl dX4_waysDown_34 ?_
              refine lv_iload_n hx hb dX4_waysDown_37 rfl (lv_at hl 1 rfl) ?_
              refine va_iald hx hb hK hP 4 2 rfl rfl (ti_in rfl hi0_n_1038.1 (om_97cd4a7c b_iC_nodes.2 gc_1039)) dX4_waysDown_38 ?_
              refine lv_topi (fun x_1065 ex_1065 => ?_)
              have hG := hG.trans (lt_eq ex_1065)
              have rg_x_1065 := fb_rng x_1065
              have kx_1065 : (fC_parts z_1036.toNatClampNeg).toInt = x_1065.toInt := by rw [ex_1065]
              have ux_1065 := a_fC_parts z_1036.toNatClampNeg (cl_lt rfl hi0_n_1038.1 (om_97cd4a7c b_iC_nodes.2 gc_1039))
              rw [show fC_parts z_1036.toNatClampNeg = x_1065 from ex_1065.symm] at ux_1065
              refine lv_icmp_ge (tgt := 72) hx hb dX4_waysDown_39 (by decide) (fun c_1066 => ?_) (fun c_1066 => ?_)
              · skip
                have hG := hG.trans (if_pos c_1066)
                have gc_1066 := ti_le c_1066 rfl rfl
                obtain ⟨x_1067, ex_1067⟩ : ∃ z : Int32, z = z_1036 + Int32.ofInt 1 := ⟨_, rfl⟩
                have hG := hG.trans (lt_eq ex_1067)
                have vx_1067 : x_1067.toInt = z_1036.toInt + 1 := ti_add (y := 1) ex_1067 rfl kc_1 (om_4e4fce7e hi0_n_1038.1) (om_a32d6481 b_iC_nodes.2 gc_1039)
                refine lv_iinc (v := x_1067) (lv' := [(2, .int x_1067), (3, .int z_1062), (0, .ref oL), (1, .ref oC)]) hx hb dX4_waysDown_72 hl (k := 1) rfl ex_1067.symm (by decide) rfl (fun ls hl => ?_)
                refine lv_goto (tgt := 2) hx hb dX4_waysDown_75 (by decide) ?_
                exact ih_n_1038 x_1067 f_1063 _ _ _  ⟨(om_83b90de5 hi0_n_1038.1 vx_1067), (om_ed8867da b_iC_nodes.2 gc_1039 vx_1067)⟩ (ms_lt hm_n_1038 (om_b9393183 vx_1067) (om_1d9fa7fb b_iC_nodes.2 gc_1039)) hG hP hD hS (lv_sub hl [0, 2, 3] rfl)
              · skip
                have hG := hG.trans (if_neg c_1066)
                have gc_1066 := ti_nle c_1066 rfl rfl
                refine lv_aload_n hx hb dX4_waysDown_42 rfl (lv_at hl 2 rfl) ?_
                refine va_get (D := (dC, dI)) (ci := 4) (v := .ref rL_values) (C := RX4) (T := TX4) (N := 2) hx hb hts inX4 hown hK hP 0 rfl rfl 0 (by decide) (hts _ wd_146) (fun _ h9 => h9) rfl dX4_waysDown_43 ?_
                refine lv_iload_n hx hb dX4_waysDown_46 rfl (lv_at hl 1 rfl) ?_
                refine lv_dup2_11 hx hb dX4_waysDown_47 rfl rfl ?_
                refine va_iald hx hb hK hP 1 0 rfl rfl (ti_in rfl hi0_n_1038.1 (om_97cd4a7c b_iC_nodes.2 gc_1039)) dX4_waysDown_48 ?_
                refine lv_topi (fun x_1068 ex_1068 => ?_)
                have hG := hG.trans (lt_eq ex_1068)
                have rg_x_1068 := fb_rng x_1068
                have kx_1068 : (f_1063 z_1036.toNatClampNeg).toInt = x_1068.toInt := by rw [ex_1068]
                refine lv_aload_n hx hb dX4_waysDown_49 rfl (lv_at hl 2 rfl) ?_
                refine va_get (D := (dC, dI)) (ci := 4) (v := .ref rL_values) (C := RX4) (T := TX4) (N := 2) hx hb hts inX4 hown hK hP 0 rfl rfl 0 (by decide) (hts _ wd_146) (fun _ h9 => h9) rfl dX4_waysDown_50 ?_
                refine lv_aload_n hx hb dX4_waysDown_53 rfl (lv_at hl 3 rfl) ?_
                refine va_get (D := (dC, dI)) (ci := 1) (v := .ref rC_partNodes) (C := RX1) (T := TX1) (N := 19) hx hb hts inX1 hown hK hP 2 rfl rfl 10 (by decide) (hts _ wd_624) (fun _ h9 => h9) rfl dX4_waysDown_54 ?_
                refine lv_iload_n hx hb dX4_waysDown_57 rfl (lv_at hl 1 rfl) ?_
                refine lv_iconst (v := 4) hx hb dX4_waysDown_58 (by decide) ?_
                refine lv_imul hx hb dX4_waysDown_59 ?_
                refine lv_topi (fun x_1069 ex_1069 => ?_)
                have hG := hG.trans (lt_eq ex_1069)
                have vx_1069 : x_1069.toInt = 4 * z_1036.toInt := by have q := ti_mul ex_1069 rfl kc_4 (by omega) (by omega); omega
                refine lv_iload_n hx hb dX4_waysDown_60 rfl (lv_at hl 0 rfl) ?_
                refine lv_iadd hx hb dX4_waysDown_61 ?_
                refine lv_topi (fun x_1070 ex_1070 => ?_)
                have hG := hG.trans (lt_eq ex_1070)
                have vx_1070 : x_1070.toInt = 4 * z_1036.toInt + z_1062.toInt := om_5d0caf0f (ti_add ex_1070 vx_1069 rfl (om_056a216f hi0_n_1038.1 hi0_n_1064.1) (om_ba7cfd31 b_iC_nodes.2 gc_1039 ux_1065.2 gc_1066))
                refine va_iald hx hb hK hP 5 3 rfl rfl (ti_in vx_1070 (om_fc2812d4 hi0_n_1038.1 hi0_n_1064.1) (om_e20cec48 b_iC_nodes.2 gc_1039 ux_1065.2 gc_1066)) dX4_waysDown_62 ?_
                refine lv_topi (fun x_1071 ex_1071 => ?_)
                have hG := hG.trans (lt_eq ex_1071)
                have rg_x_1071 := fb_rng x_1071
                have kx_1071 : (fC_partNodes x_1070.toNatClampNeg).toInt = x_1071.toInt := by rw [ex_1071]
                have ux_1071 := a_fC_partNodes x_1070.toNatClampNeg (cl_lt vx_1070 (om_fc2812d4 hi0_n_1038.1 hi0_n_1064.1) (om_e20cec48 b_iC_nodes.2 gc_1039 ux_1065.2 gc_1066))
                rw [show fC_partNodes x_1070.toNatClampNeg = x_1071 from ex_1071.symm] at ux_1071
                refine va_iald hx hb hK hP 1 0 rfl rfl (ti_in rfl ux_1071.1 (om_b3735a34 ux_1071.2)) dX4_waysDown_63 ?_
                refine lv_topi (fun x_1072 ex_1072 => ?_)
                have hG := hG.trans (lt_eq ex_1072)
                have rg_x_1072 := fb_rng x_1072
                have kx_1072 : (f_1063 x_1071.toNatClampNeg).toInt = x_1072.toInt := by rw [ex_1072]
                refine lv_iadd hx hb dX4_waysDown_64 ?_
                refine lv_topi (fun x_1073 ex_1073 => ?_)
                have hG := hG.trans (lt_eq ex_1073)
                have rg_x_1073 := fb_rng x_1073
                refine va_iast hx hb hK hP hD hS 1 0 rfl rfl (ti_in rfl hi0_n_1038.1 (om_97cd4a7c b_iC_nodes.2 gc_1039)) dX4_waysDown_65 (fun H locs hP hD hS => ?_)
                obtain ⟨f_1075, ef_1075⟩ : ∃ g : Nat → Int32, g = upd f_1063 z_1036.toNatClampNeg x_1073 := ⟨_, rfl⟩
                rw [← ef_1075] at hP hD
                have hG := hG.trans (lt_eq ef_1075)
                obtain ⟨hP, hD⟩ := wl2 (ws' := [(oc4 oL rL_values rL_supposed), (arI rL_values kL_values 18 f_1075), (oc1 oC iC_nodes iC_words iC_chances iC_unsures iC_slips iC_throneNode iC_saidWorth iC_unit rC_kind rC_parts rC_partNodes rC_weights rC_weightSums rC_toldWorths rC_steps rC_below rC_above rC_unsureWords rC_unsureWorths), (arI rC_kind kC_kind 18 fC_kind), (arI rC_parts kC_parts 18 fC_parts), (arI rC_partNodes kC_partNodes 72 fC_partNodes)]) hP hD rfl
                obtain ⟨x_1076, ex_1076⟩ : ∃ z : Int32, z = z_1062 + Int32.ofInt 1 := ⟨_, rfl⟩
                have hG := hG.trans (lt_eq ex_1076)
                have vx_1076 : x_1076.toInt = z_1062.toInt + 1 := ti_add (y := 1) ex_1076 rfl kc_1 (om_4e4fce7e hi0_n_1064.1) (om_0ca29412 ux_1065.2 gc_1066)
                refine lv_iinc (v := x_1076) (lv' := [(3, .int x_1076), (2, .int z_1036), (0, .ref oL), (1, .ref oC)]) hx hb dX4_waysDown_66 hl (k := 0) rfl ex_1076.symm (by decide) rfl (fun ls hl => ?_)
                refine lv_goto (tgt := 32) hx hb dX4_waysDown_69 (by decide) ?_
                exact ih_n_1064 x_1076 f_1075 _ _ _  ⟨(om_83b90de5 hi0_n_1064.1 vx_1076), (om_008057e4 ux_1065.2 gc_1066 vx_1076)⟩ (ms_lt hm_n_1064 (om_b9393183 vx_1076) (om_349eab4e ux_1065.2 gc_1066)) hG hP hD hS (lv_sub hl [0, 1, 2, 3] rfl)
          exact key_n_1064 (((2147483647 - (0 : Int32).toInt).toNat) + 1) 0 f_1061 _ _ _  ⟨(om_b1de7dbe kc_0), (om_daf17c64 kc_0)⟩ (Nat.lt_add_one _) hG hP hD hS hl
  exact key_n_1038 (((2147483647 - (0 : Int32).toInt).toNat) + 1) 0 fL_values _ _ _  ⟨(om_b1de7dbe kc_0), (om_daf17c64 kc_0)⟩ (Nat.lt_add_one _) hG hP hD hS hl
set_option maxHeartbeats 4000000 in
set_option maxRecDepth 100000 in
theorem tX4_weighNightNone (l : Launch) (dC : Nat → ClassId) (dI : Nat → Nat → Nat) (sz : Nat) (oL : Nat) (rL_values : Nat) (fL_values : Nat → Int32) (kL_values : ClassId) (rL_supposed : Nat) (oC : Nat) (iC_nodes : Int32) (iC_words : Int32) (iC_chances : Int32) (iC_unsures : Int32) (iC_slips : Int32) (iC_throneNode : Int32) (iC_saidWorth : Int32) (iC_unit : Int32) (rC_kind : Nat) (fC_kind : Nat → Int32) (kC_kind : ClassId) (rC_parts : Nat) (rC_partNodes : Nat) (rC_weights : Nat) (rC_weightSums : Nat) (rC_toldWorths : Nat) (rC_steps : Nat) (rC_below : Nat) (rC_above : Nat) (rC_unsureWords : Nat) (rC_unsureWorths : Nat) (rW : Nat) (fW : Nat → Int32) (kW : ClassId) (b_iC_nodes : 0 ≤ iC_nodes.toInt ∧ iC_nodes.toInt ≤ 18) (b_iC_unsures : 0 ≤ iC_unsures.toInt ∧ iC_unsures.toInt ≤ 4) (b_iC_throneNode : (-1) ≤ iC_throneNode.toInt ∧ iC_throneNode.toInt ≤ 17)  : Met l yX4_weighNightNone (Cond.code yX4_weighNightNone cX4_weighNightNone 4 none :: wG) ({ frames := 0, cells := 0, slots := 0, locals := 0 }) (va_Pc [.ref oL, .ref oC, .ref rW] (Pw dC dI sz [(oc4 oL rL_values rL_supposed), (arI rL_values kL_values 18 fL_values), (oc1 oC iC_nodes iC_words iC_chances iC_unsures iC_slips iC_throneNode iC_saidWorth iC_unit rC_kind rC_parts rC_partNodes rC_weights rC_weightSums rC_toldWorths rC_steps rC_below rC_above rC_unsureWords rC_unsureWorths), (arI rC_kind kC_kind 18 fC_kind), (arI rW kW 18 fW)] [(kL_values, .int), (kC_kind, .int), (kW, .int)])) (va_Qv (fun (_ : Nat) => True) (fun (_ : Nat) (t : State) => ∃ (nfL_values : Nat → Int32), Bw dC dI (va_A [(oc4 oL rL_values rL_supposed), (arI rL_values kL_values 18 fL_values), (oc1 oC iC_nodes iC_words iC_chances iC_unsures iC_slips iC_throneNode iC_saidWorth iC_unit rC_kind rC_parts rC_partNodes rC_weights rC_weightSums rC_toldWorths rC_steps rC_below rC_above rC_unsureWords rC_unsureWorths), (arI rC_kind kC_kind 18 fC_kind), (arI rW kW 18 fW)] sz) [(oc4 oL rL_values rL_supposed), (arI rL_values kL_values 18 nfL_values), (oc1 oC iC_nodes iC_words iC_chances iC_unsures iC_slips iC_throneNode iC_saidWorth iC_unit rC_kind rC_parts rC_partNodes rC_weights rC_weightSums rC_toldWorths rC_steps rC_below rC_above rC_unsureWords rC_unsureWorths), (arI rC_kind kC_kind 18 fC_kind), (arI rW kW 18 fW)] [(kL_values, .int), (kC_kind, .int), (kW, .int)] t) (va_A [(oc4 oL rL_values rL_supposed), (arI rL_values kL_values 18 fL_values), (oc1 oC iC_nodes iC_words iC_chances iC_unsures iC_slips iC_throneNode iC_saidWorth iC_unit rC_kind rC_parts rC_partNodes rC_weights rC_weightSums rC_toldWorths rC_steps rC_below rC_above rC_unsureWords rC_unsureWorths), (arI rC_kind kC_kind 18 fC_kind), (arI rW kW 18 fW)] sz)) 0 0 (va_A [(oc4 oL rL_values rL_supposed), (arI rL_values kL_values 18 fL_values), (oc1 oC iC_nodes iC_words iC_chances iC_unsures iC_slips iC_throneNode iC_saidWorth iC_unit rC_kind rC_parts rC_partNodes rC_weights rC_weightSums rC_toldWorths rC_steps rC_below rC_above rC_unsureWords rC_unsureWorths), (arI rC_kind kC_kind 18 fC_kind), (arI rW kW 18 fW)] sz) := by
  refine Met.ofW (cc := cX4_weighNightNone) (maxL := 4) (ret := none) pnX4 rfl ?_
  intro p e s m args below meth c s₁ B hml hv
  obtain ⟨rfl, hsz, hP, hK, hD0, hE⟩ := hv
  have hx := B.exec
  have hb := B.bytes
  have hr := B.returns
  have hts : ∀ w ∈ wG, w.before ([.ref oL, .ref oC, .ref rW] : List Value).toArray s = true := fun w h => atoms_spec (ws := Cond.code yX4_weighNightNone cX4_weighNightNone 4 none :: wG) B.pre w (List.mem_cons_of_mem _ h)
  have hown : s.vm.findClass RX4 = some m.cls := own_of B.named rfl
  have hlocks := B.notSynchronized
  subst hsz
  have hD := hD0.self (sz := s.heap.size)
  generalize hAe : va_A [(oc4 oL rL_values rL_supposed), (arI rL_values kL_values 18 fL_values), (oc1 oC iC_nodes iC_words iC_chances iC_unsures iC_slips iC_throneNode iC_saidWorth iC_unit rC_kind rC_parts rC_partNodes rC_weights rC_weightSums rC_toldWorths rC_steps rC_below rC_above rC_unsureWords rC_unsureWorths), (arI rC_kind kC_kind 18 fC_kind), (arI rW kW 18 fW)] s.heap.size = A at hD hE ⊢
  have hA : ∀ q : Nat, s.heap.size ≤ q → A q := fun q h => by rw [← hAe]; exact Or.inr h
  have hS : va_S A s.heap s.heap [] := va_S.rf
  have hl := lv_entry ([.ref oL, .ref oC, .ref rW]) (n := 4) (Nat.le_of_ble_eq_true rfl)
  rw [lg_entry_eq]
  generalize (lg_sl ([.ref oL, .ref oC, .ref rW]) ++ List.replicate (4 - (lg_sl ([.ref oL, .ref oC, .ref rW])).length) Slot.unset).toArray = ls at hl ⊢
  have hl : lv_has ls 4 [(0, .ref oL), (1, .ref oC), (2, .ref rW)] := hl
  refine lv_iconst (v := 0) hx hb dX4_weighNightNone_0 (by decide) ?_
  refine lv_istore_n (lv' := [(3, .int 0), (0, .ref oL), (1, .ref oC), (2, .ref rW)]) hx hb dX4_weighNightNone_1 rfl hl (by decide) rfl (fun ls hl => ?_)
  have hl := lv_sub hl (l' := [(3, .int 0), (0, .ref oL), (1, .ref oC), (2, .ref rW)]) [0, 1, 2, 3] rfl
  have key_n_1100 : ∀ (n_1100 : Nat) (z_1098 : Int32) (f_1099 : Nat → Int32) (H : Heap) (locs : List Loc) (ls : Array Slot), (0 ≤ z_1098.toInt ∧ z_1098.toInt ≤ 2147483647) → (2147483647 - z_1098.toInt).toNat < n_1100 → va_P (dC, dI) vwCl [(oc4 oL rL_values rL_supposed), (arI rL_values kL_values 18 f_1099), (oc1 oC iC_nodes iC_words iC_chances iC_unsures iC_slips iC_throneNode iC_saidWorth iC_unit rC_kind rC_parts rC_partNodes rC_weights rC_weightSums rC_toldWorths rC_steps rC_below rC_above rC_unsureWords rC_unsureWorths), (arI rC_kind kC_kind 18 fC_kind), (arI rW kW 18 fW)] H → va_D A [(oc4 oL rL_values rL_supposed), (arI rL_values kL_values 18 f_1099), (oc1 oC iC_nodes iC_words iC_chances iC_unsures iC_slips iC_throneNode iC_saidWorth iC_unit rC_kind rC_parts rC_partNodes rC_weights rC_weightSums rC_toldWorths rC_steps rC_below rC_above rC_unsureWords rC_unsureWorths), (arI rC_kind kC_kind 18 fC_kind), (arI rW kW 18 fW)] → va_S A s.heap H locs → lv_has ls 4 [(3, .int z_1098), (0, .ref oL), (1, .ref oC), (2, .ref rW)] → W p l e (headSpec (Cond.code yX4_weighNightNone cX4_weighNightNone 4 none :: wG) ({ frames := 0, cells := 0, slots := 0, locals := 0 })).room s m ([.ref oL, .ref oC, .ref rW] : List Value).toArray below meth c H locs 0 0 (MQ below (va_Qv (fun (_ : Nat) => True) (fun (_ : Nat) (t : State) => ∃ (nfL_values : Nat → Int32), Bw dC dI A [(oc4 oL rL_values rL_supposed), (arI rL_values kL_values 18 nfL_values), (oc1 oC iC_nodes iC_words iC_chances iC_unsures iC_slips iC_throneNode iC_saidWorth iC_unit rC_kind rC_parts rC_partNodes rC_weights rC_weightSums rC_toldWorths rC_steps rC_below rC_above rC_unsureWords rC_unsureWorths), (arI rC_kind kC_kind 18 fC_kind), (arI rW kW 18 fW)] [(kL_values, .int), (kC_kind, .int), (kW, .int)] t) A) ([.ref oL, .ref oC, .ref rW] : List Value).toArray s 0 0 A) (F0 m 2 ls []) := by
    intro n_1100
    induction n_1100 with
    | zero => intro z_1098 f_1099 H locs ls hi0_n_1100 hm; exact absurd hm (Nat.not_lt_zero _)
    | succ n_1100 ih_n_1100 =>
      intro z_1098 f_1099 H locs ls hi0_n_1100 hm_n_1100 hP hD hS hl
      have rg_z_1098 := fb_rng z_1098
      refine lv_iload_n hx hb dX4_weighNightNone_2 rfl (lv_at hl 0 rfl) ?_
      refine lv_aload_n hx hb dX4_weighNightNone_3 rfl (lv_at hl 2 rfl) ?_
      refine va_get (D := (dC, dI)) (ci := 1) (v := .int iC_nodes) (C := RX1) (T := TX1) (N := 19) hx hb hts inX1 hown hK hP 2 rfl rfl 0 (by decide) (hts _ wd_616) (fun _ h9 => h9) rfl dX4_weighNightNone_4 ?_
      have rg_iC_nodes := fb_rng iC_nodes
      refine lv_icmp_ge (tgt := 44) hx hb dX4_weighNightNone_7 (by decide) (fun c_1101 => ?_) (fun c_1101 => ?_)
      · skip
        have gc_1101 := ti_le c_1101 rfl rfl
        exact wq_v hx hb hr 0 trivial (fun t ht hW => ⟨f_1099, Bw.to hP hD hK ht hW⟩) hS dX4_weighNightNone_44 hlocks
      · skip
        have gc_1101 := ti_nle c_1101 rfl rfl
        refine lv_aload_n hx hb dX4_weighNightNone_10 rfl (lv_at hl 1 rfl) ?_
        refine va_get (D := (dC, dI)) (ci := 4) (v := .ref rL_values) (C := RX4) (T := TX4) (N := 2) hx hb hts inX4 hown hK hP 0 rfl rfl 0 (by decide) (hts _ wd_146) (fun _ h9 => h9) rfl dX4_weighNightNone_11 ?_
        refine lv_iload_n hx hb dX4_weighNightNone_14 rfl (lv_at hl 0 rfl) ?_
        refine lv_aload_n hx hb dX4_weighNightNone_15 rfl (lv_at hl 2 rfl) ?_
        refine va_get (D := (dC, dI)) (ci := 1) (v := .ref rC_kind) (C := RX1) (T := TX1) (N := 19) hx hb hts inX1 hown hK hP 2 rfl rfl 8 (by decide) (hts _ wd_617) (fun _ h9 => h9) rfl dX4_weighNightNone_16 ?_
        refine lv_iload_n hx hb dX4_weighNightNone_19 rfl (lv_at hl 0 rfl) ?_
        refine va_iald hx hb hK hP 3 1 rfl rfl (ti_in rfl hi0_n_1100.1 (om_97cd4a7c b_iC_nodes.2 gc_1101)) dX4_weighNightNone_20 ?_
        refine lv_topi (fun x_1102 ex_1102 => ?_)
        have rg_x_1102 := fb_rng x_1102
        have kx_1102 : (fC_kind z_1098.toNatClampNeg).toInt = x_1102.toInt := by rw [ex_1102]
        refine lv_if_ne (tgt := 30) hx hb dX4_weighNightNone_21 (by decide) (fun c_1103 => ?_) (fun c_1103 => ?_)
        · skip
          have gc_1103 := ti_ne c_1103 rfl kc_0
          refine lv_bipush (v := 50) hx hb dX4_weighNightNone_30 (by decide) ?_
          refine lv_aload_n hx hb dX4_weighNightNone_32 rfl (lv_at hl 2 rfl) ?_
          refine va_get (D := (dC, dI)) (ci := 1) (v := .int iC_unit) (C := RX1) (T := TX1) (N := 19) hx hb hts inX1 hown hK hP 2 rfl rfl 7 (by decide) (hts _ wd_618) (fun _ h9 => h9) rfl dX4_weighNightNone_33 ?_
          have rg_iC_unit := fb_rng iC_unit
          refine lv_imul hx hb dX4_weighNightNone_36 ?_
          refine lv_topi (fun x_1104 ex_1104 => ?_)
          have rg_x_1104 := fb_rng x_1104
          refine vz_iast hx hb hK hP hD hS 1 0 rfl rfl (ti_in rfl hi0_n_1100.1 (om_97cd4a7c b_iC_nodes.2 gc_1101)) dX4_weighNightNone_37 (fun H locs f_1105 hP hD hS => ?_)
          obtain ⟨hP, hD⟩ := wl2 (ws' := [(oc4 oL rL_values rL_supposed), (arI rL_values kL_values 18 f_1105), (oc1 oC iC_nodes iC_words iC_chances iC_unsures iC_slips iC_throneNode iC_saidWorth iC_unit rC_kind rC_parts rC_partNodes rC_weights rC_weightSums rC_toldWorths rC_steps rC_below rC_above rC_unsureWords rC_unsureWorths), (arI rC_kind kC_kind 18 fC_kind), (arI rW kW 18 fW)]) hP hD rfl
          obtain ⟨x_1106, ex_1106⟩ : ∃ z : Int32, z = z_1098 + Int32.ofInt 1 := ⟨_, rfl⟩
          have vx_1106 : x_1106.toInt = z_1098.toInt + 1 := ti_add (y := 1) ex_1106 rfl kc_1 (om_4e4fce7e hi0_n_1100.1) (om_a32d6481 b_iC_nodes.2 gc_1101)
          refine lv_iinc (v := x_1106) (lv' := [(3, .int x_1106), (0, .ref oL), (1, .ref oC), (2, .ref rW)]) hx hb dX4_weighNightNone_38 hl (k := 0) rfl ex_1106.symm (by decide) rfl (fun ls hl => ?_)
          refine lv_goto (tgt := 2) hx hb dX4_weighNightNone_41 (by decide) ?_
          exact ih_n_1100 x_1106 f_1105 _ _ _  ⟨(om_83b90de5 hi0_n_1100.1 vx_1106), (om_ed8867da b_iC_nodes.2 gc_1101 vx_1106)⟩ (ms_lt hm_n_1100 (om_b9393183 vx_1106) (om_1d9fa7fb b_iC_nodes.2 gc_1101)) hP hD hS (lv_sub hl [0, 1, 2, 3] rfl)
        · skip
          have gc_1103 := ti_eq c_1103 rfl kc_0
          refine lv_aload_n hx hb dX4_weighNightNone_24 rfl (lv_at hl 3 rfl) ?_
          refine lv_iload_n hx hb dX4_weighNightNone_25 rfl (lv_at hl 0 rfl) ?_
          refine va_iald hx hb hK hP 4 2 rfl rfl (ti_in rfl hi0_n_1100.1 (om_97cd4a7c b_iC_nodes.2 gc_1101)) dX4_weighNightNone_26 ?_
          refine lv_topi (fun x_1107 ex_1107 => ?_)
          have rg_x_1107 := fb_rng x_1107
          have kx_1107 : (fW z_1098.toNatClampNeg).toInt = x_1107.toInt := by rw [ex_1107]
          refine lv_goto (tgt := 32) hx hb dX4_weighNightNone_27 (by decide) ?_
          refine lv_aload_n hx hb dX4_weighNightNone_32 rfl (lv_at hl 2 rfl) ?_
          refine va_get (D := (dC, dI)) (ci := 1) (v := .int iC_unit) (C := RX1) (T := TX1) (N := 19) hx hb hts inX1 hown hK hP 2 rfl rfl 7 (by decide) (hts _ wd_618) (fun _ h9 => h9) rfl dX4_weighNightNone_33 ?_
          have rg_iC_unit := fb_rng iC_unit
          refine lv_imul hx hb dX4_weighNightNone_36 ?_
          refine lv_topi (fun x_1108 ex_1108 => ?_)
          have rg_x_1108 := fb_rng x_1108
          refine vz_iast hx hb hK hP hD hS 1 0 rfl rfl (ti_in rfl hi0_n_1100.1 (om_97cd4a7c b_iC_nodes.2 gc_1101)) dX4_weighNightNone_37 (fun H locs f_1109 hP hD hS => ?_)
          obtain ⟨hP, hD⟩ := wl2 (ws' := [(oc4 oL rL_values rL_supposed), (arI rL_values kL_values 18 f_1109), (oc1 oC iC_nodes iC_words iC_chances iC_unsures iC_slips iC_throneNode iC_saidWorth iC_unit rC_kind rC_parts rC_partNodes rC_weights rC_weightSums rC_toldWorths rC_steps rC_below rC_above rC_unsureWords rC_unsureWorths), (arI rC_kind kC_kind 18 fC_kind), (arI rW kW 18 fW)]) hP hD rfl
          obtain ⟨x_1110, ex_1110⟩ : ∃ z : Int32, z = z_1098 + Int32.ofInt 1 := ⟨_, rfl⟩
          have vx_1110 : x_1110.toInt = z_1098.toInt + 1 := ti_add (y := 1) ex_1110 rfl kc_1 (om_4e4fce7e hi0_n_1100.1) (om_a32d6481 b_iC_nodes.2 gc_1101)
          refine lv_iinc (v := x_1110) (lv' := [(3, .int x_1110), (0, .ref oL), (1, .ref oC), (2, .ref rW)]) hx hb dX4_weighNightNone_38 hl (k := 0) rfl ex_1110.symm (by decide) rfl (fun ls hl => ?_)
          refine lv_goto (tgt := 2) hx hb dX4_weighNightNone_41 (by decide) ?_
          exact ih_n_1100 x_1110 f_1109 _ _ _  ⟨(om_83b90de5 hi0_n_1100.1 vx_1110), (om_ed8867da b_iC_nodes.2 gc_1101 vx_1110)⟩ (ms_lt hm_n_1100 (om_b9393183 vx_1110) (om_1d9fa7fb b_iC_nodes.2 gc_1101)) hP hD hS (lv_sub hl [0, 1, 2, 3] rfl)
  exact key_n_1100 (((2147483647 - (0 : Int32).toInt).toNat) + 1) 0 fL_values _ _ _  ⟨(om_b1de7dbe kc_0), (om_daf17c64 kc_0)⟩ (Nat.lt_add_one _) hP hD hS hl
set_option maxHeartbeats 4000000 in
set_option maxRecDepth 100000 in
theorem tX4_weighNextNight (l : Launch) (dC : Nat → ClassId) (dI : Nat → Nat → Nat) (sz : Nat) (oL : Nat) (rL_values : Nat) (fL_values : Nat → Int32) (kL_values : ClassId) (rL_supposed : Nat) (oC : Nat) (iC_nodes : Int32) (iC_words : Int32) (iC_chances : Int32) (iC_unsures : Int32) (iC_slips : Int32) (iC_throneNode : Int32) (iC_saidWorth : Int32) (iC_unit : Int32) (rC_kind : Nat) (fC_kind : Nat → Int32) (kC_kind : ClassId) (rC_parts : Nat) (fC_parts : Nat → Int32) (kC_parts : ClassId) (rC_partNodes : Nat) (fC_partNodes : Nat → Int32) (kC_partNodes : ClassId) (rC_weights : Nat) (fC_weights : Nat → Int32) (kC_weights : ClassId) (rC_weightSums : Nat) (fC_weightSums : Nat → Int32) (kC_weightSums : ClassId) (rC_toldWorths : Nat) (rC_steps : Nat) (rC_below : Nat) (rC_above : Nat) (rC_unsureWords : Nat) (rC_unsureWorths : Nat) (b_iC_nodes : 0 ≤ iC_nodes.toInt ∧ iC_nodes.toInt ≤ 18) (b_iC_unsures : 0 ≤ iC_unsures.toInt ∧ iC_unsures.toInt ≤ 4) (b_iC_throneNode : (-1) ≤ iC_throneNode.toInt ∧ iC_throneNode.toInt ≤ 17) (a_fC_parts : ∀ j : Nat, j < 18 → 0 ≤ (fC_parts j).toInt ∧ (fC_parts j).toInt ≤ 4) (a_fC_partNodes : ∀ j : Nat, j < 72 → 0 ≤ (fC_partNodes j).toInt ∧ (fC_partNodes j).toInt ≤ 17)  : Met l yX4_weighNextNight (Cond.code yX4_weighNextNight cX4_weighNextNight 3 none :: wG) ({ frames := 2, cells := 0, slots := 0, locals := 48 }) (va_Pc [.ref oL, .ref oC] (Pw dC dI sz [(oc4 oL rL_values rL_supposed), (arI rL_values kL_values 18 fL_values), (oc1 oC iC_nodes iC_words iC_chances iC_unsures iC_slips iC_throneNode iC_saidWorth iC_unit rC_kind rC_parts rC_partNodes rC_weights rC_weightSums rC_toldWorths rC_steps rC_below rC_above rC_unsureWords rC_unsureWorths), (arI rC_kind kC_kind 18 fC_kind), (arI rC_parts kC_parts 18 fC_parts), (arI rC_partNodes kC_partNodes 72 fC_partNodes), (arI rC_weights kC_weights 72 fC_weights), (arI rC_weightSums kC_weightSums 18 fC_weightSums)] [(kL_values, .int), (kC_kind, .int), (kC_parts, .int), (kC_partNodes, .int), (kC_weights, .int), (kC_weightSums, .int)])) (va_Qv (fun (_ : Nat) => True) (fun (_ : Nat) (t : State) => ∃ (nfL_values : Nat → Int32), Bw dC dI (va_A [(oc4 oL rL_values rL_supposed), (arI rL_values kL_values 18 fL_values), (oc1 oC iC_nodes iC_words iC_chances iC_unsures iC_slips iC_throneNode iC_saidWorth iC_unit rC_kind rC_parts rC_partNodes rC_weights rC_weightSums rC_toldWorths rC_steps rC_below rC_above rC_unsureWords rC_unsureWorths), (arI rC_kind kC_kind 18 fC_kind), (arI rC_parts kC_parts 18 fC_parts), (arI rC_partNodes kC_partNodes 72 fC_partNodes), (arI rC_weights kC_weights 72 fC_weights), (arI rC_weightSums kC_weightSums 18 fC_weightSums)] sz) [(oc4 oL rL_values rL_supposed), (arI rL_values kL_values 18 nfL_values), (oc1 oC iC_nodes iC_words iC_chances iC_unsures iC_slips iC_throneNode iC_saidWorth iC_unit rC_kind rC_parts rC_partNodes rC_weights rC_weightSums rC_toldWorths rC_steps rC_below rC_above rC_unsureWords rC_unsureWorths), (arI rC_kind kC_kind 18 fC_kind), (arI rC_parts kC_parts 18 fC_parts), (arI rC_partNodes kC_partNodes 72 fC_partNodes), (arI rC_weights kC_weights 72 fC_weights), (arI rC_weightSums kC_weightSums 18 fC_weightSums)] [(kL_values, .int), (kC_kind, .int), (kC_parts, .int), (kC_partNodes, .int), (kC_weights, .int), (kC_weightSums, .int)] t) (va_A [(oc4 oL rL_values rL_supposed), (arI rL_values kL_values 18 fL_values), (oc1 oC iC_nodes iC_words iC_chances iC_unsures iC_slips iC_throneNode iC_saidWorth iC_unit rC_kind rC_parts rC_partNodes rC_weights rC_weightSums rC_toldWorths rC_steps rC_below rC_above rC_unsureWords rC_unsureWorths), (arI rC_kind kC_kind 18 fC_kind), (arI rC_parts kC_parts 18 fC_parts), (arI rC_partNodes kC_partNodes 72 fC_partNodes), (arI rC_weights kC_weights 72 fC_weights), (arI rC_weightSums kC_weightSums 18 fC_weightSums)] sz)) 0 0 (va_A [(oc4 oL rL_values rL_supposed), (arI rL_values kL_values 18 fL_values), (oc1 oC iC_nodes iC_words iC_chances iC_unsures iC_slips iC_throneNode iC_saidWorth iC_unit rC_kind rC_parts rC_partNodes rC_weights rC_weightSums rC_toldWorths rC_steps rC_below rC_above rC_unsureWords rC_unsureWorths), (arI rC_kind kC_kind 18 fC_kind), (arI rC_parts kC_parts 18 fC_parts), (arI rC_partNodes kC_partNodes 72 fC_partNodes), (arI rC_weights kC_weights 72 fC_weights), (arI rC_weightSums kC_weightSums 18 fC_weightSums)] sz) := by
  refine Met.ofW (cc := cX4_weighNextNight) (maxL := 3) (ret := none) pnX4 rfl ?_
  intro p e s m args below meth c s₁ B hml hv
  obtain ⟨rfl, hsz, hP, hK, hD0, hE⟩ := hv
  have hx := B.exec
  have hb := B.bytes
  have hr := B.returns
  have hts : ∀ w ∈ wG, w.before ([.ref oL, .ref oC] : List Value).toArray s = true := fun w h => atoms_spec (ws := Cond.code yX4_weighNextNight cX4_weighNextNight 3 none :: wG) B.pre w (List.mem_cons_of_mem _ h)
  have hown : s.vm.findClass RX4 = some m.cls := own_of B.named rfl
  have hlocks := B.notSynchronized
  subst hsz
  have hD := hD0.self (sz := s.heap.size)
  generalize hAe : va_A [(oc4 oL rL_values rL_supposed), (arI rL_values kL_values 18 fL_values), (oc1 oC iC_nodes iC_words iC_chances iC_unsures iC_slips iC_throneNode iC_saidWorth iC_unit rC_kind rC_parts rC_partNodes rC_weights rC_weightSums rC_toldWorths rC_steps rC_below rC_above rC_unsureWords rC_unsureWorths), (arI rC_kind kC_kind 18 fC_kind), (arI rC_parts kC_parts 18 fC_parts), (arI rC_partNodes kC_partNodes 72 fC_partNodes), (arI rC_weights kC_weights 72 fC_weights), (arI rC_weightSums kC_weightSums 18 fC_weightSums)] s.heap.size = A at hD hE ⊢
  have hA : ∀ q : Nat, s.heap.size ≤ q → A q := fun q h => by rw [← hAe]; exact Or.inr h
  have hS : va_S A s.heap s.heap [] := va_S.rf
  have hl := lv_entry ([.ref oL, .ref oC]) (n := 3) (Nat.le_of_ble_eq_true rfl)
  rw [lg_entry_eq]
  generalize (lg_sl ([.ref oL, .ref oC]) ++ List.replicate (3 - (lg_sl ([.ref oL, .ref oC])).length) Slot.unset).toArray = ls at hl ⊢
  have hl : lv_has ls 3 [(0, .ref oL), (1, .ref oC)] := hl
  refine lv_aload_n hx hb dX4_weighNextNight_0 rfl (lv_at hl 1 rfl) ?_
  refine va_get (D := (dC, dI)) (ci := 1) (v := .int iC_nodes) (C := RX1) (T := TX1) (N := 19) hx hb hts inX1 hown hK hP 2 rfl rfl 0 (by decide) (hts _ wd_616) (fun _ h9 => h9) rfl dX4_weighNextNight_1 ?_
  refine lv_iconst (v := 1) hx hb dX4_weighNextNight_4 (by decide) ?_
  refine lv_isub hx hb dX4_weighNextNight_5 ?_
  refine lv_topi (fun x_1132 ex_1132 => ?_)
  have vx_1132 : x_1132.toInt = iC_nodes.toInt + (-1) := om_89646172 (ti_sub ex_1132 rfl kc_1 (om_e65a73c2 b_iC_nodes.1) (om_6178c2cd b_iC_nodes.2))
  refine lv_istore_n (lv' := [(2, .int x_1132), (0, .ref oL), (1, .ref oC)]) hx hb dX4_weighNextNight_6 rfl hl (by decide) rfl (fun ls hl => ?_)
  have hl := lv_sub hl (l' := [(2, .int x_1132), (0, .ref oL), (1, .ref oC)]) [0, 1, 2] rfl
  have key_n_1135 : ∀ (n_1135 : Nat) (z_1133 : Int32) (f_1134 : Nat → Int32) (H : Heap) (locs : List Loc) (ls : Array Slot), ((-1) ≤ z_1133.toInt ∧ z_1133.toInt ≤ 17) → (z_1133.toInt - (-1)).toNat < n_1135 → va_P (dC, dI) vwCl [(oc4 oL rL_values rL_supposed), (arI rL_values kL_values 18 f_1134), (oc1 oC iC_nodes iC_words iC_chances iC_unsures iC_slips iC_throneNode iC_saidWorth iC_unit rC_kind rC_parts rC_partNodes rC_weights rC_weightSums rC_toldWorths rC_steps rC_below rC_above rC_unsureWords rC_unsureWorths), (arI rC_kind kC_kind 18 fC_kind), (arI rC_parts kC_parts 18 fC_parts), (arI rC_partNodes kC_partNodes 72 fC_partNodes), (arI rC_weights kC_weights 72 fC_weights), (arI rC_weightSums kC_weightSums 18 fC_weightSums)] H → va_D A [(oc4 oL rL_values rL_supposed), (arI rL_values kL_values 18 f_1134), (oc1 oC iC_nodes iC_words iC_chances iC_unsures iC_slips iC_throneNode iC_saidWorth iC_unit rC_kind rC_parts rC_partNodes rC_weights rC_weightSums rC_toldWorths rC_steps rC_below rC_above rC_unsureWords rC_unsureWorths), (arI rC_kind kC_kind 18 fC_kind), (arI rC_parts kC_parts 18 fC_parts), (arI rC_partNodes kC_partNodes 72 fC_partNodes), (arI rC_weights kC_weights 72 fC_weights), (arI rC_weightSums kC_weightSums 18 fC_weightSums)] → va_S A s.heap H locs → lv_has ls 3 [(2, .int z_1133), (0, .ref oL), (1, .ref oC)] → W p l e (headSpec (Cond.code yX4_weighNextNight cX4_weighNextNight 3 none :: wG) ({ frames := 2, cells := 0, slots := 0, locals := 48 })).room s m ([.ref oL, .ref oC] : List Value).toArray below meth c H locs 0 0 (MQ below (va_Qv (fun (_ : Nat) => True) (fun (_ : Nat) (t : State) => ∃ (nfL_values : Nat → Int32), Bw dC dI A [(oc4 oL rL_values rL_supposed), (arI rL_values kL_values 18 nfL_values), (oc1 oC iC_nodes iC_words iC_chances iC_unsures iC_slips iC_throneNode iC_saidWorth iC_unit rC_kind rC_parts rC_partNodes rC_weights rC_weightSums rC_toldWorths rC_steps rC_below rC_above rC_unsureWords rC_unsureWorths), (arI rC_kind kC_kind 18 fC_kind), (arI rC_parts kC_parts 18 fC_parts), (arI rC_partNodes kC_partNodes 72 fC_partNodes), (arI rC_weights kC_weights 72 fC_weights), (arI rC_weightSums kC_weightSums 18 fC_weightSums)] [(kL_values, .int), (kC_kind, .int), (kC_parts, .int), (kC_partNodes, .int), (kC_weights, .int), (kC_weightSums, .int)] t) A) ([.ref oL, .ref oC] : List Value).toArray s 0 0 A) (F0 m 7 ls []) := by
    intro n_1135
    induction n_1135 with
    | zero => intro z_1133 f_1134 H locs ls hi0_n_1135 hm; exact absurd hm (Nat.not_lt_zero _)
    | succ n_1135 ih_n_1135 =>
      intro z_1133 f_1134 H locs ls hi0_n_1135 hm_n_1135 hP hD hS hl
      refine lv_iload_n hx hb dX4_weighNextNight_7 rfl (lv_at hl 0 rfl) ?_
      refine lv_if_lt (tgt := 38) hx hb dX4_weighNextNight_8 (by decide) (fun c_1136 => ?_) (fun c_1136 => ?_)
      · skip
        have gc_1136 := ti_lt c_1136 rfl kc_0
        exact wq_v hx hb hr 0 trivial (fun t ht hW => ⟨f_1134, Bw.to hP hD hK ht hW⟩) hS dX4_weighNextNight_38 hlocks
      · skip
        have gc_1136 := ti_nlt c_1136 rfl kc_0
        refine lv_aload_n hx hb dX4_weighNextNight_11 rfl (lv_at hl 2 rfl) ?_
        refine va_get (D := (dC, dI)) (ci := 1) (v := .ref rC_kind) (C := RX1) (T := TX1) (N := 19) hx hb hts inX1 hown hK hP 2 rfl rfl 8 (by decide) (hts _ wd_617) (fun _ h9 => h9) rfl dX4_weighNextNight_12 ?_
        refine lv_iload_n hx hb dX4_weighNextNight_15 rfl (lv_at hl 0 rfl) ?_
        refine va_iald hx hb hK hP 3 1 rfl rfl (ti_in rfl gc_1136 (om_b3735a34 hi0_n_1135.2)) dX4_weighNextNight_16 ?_
        refine lv_topi (fun x_1137 ex_1137 => ?_)
        have kx_1137 : (fC_kind z_1133.toNatClampNeg).toInt = x_1137.toInt := by rw [ex_1137]
        refine lv_if_eq (tgt := 32) hx hb dX4_weighNextNight_17 (by decide) (fun c_1138 => ?_) (fun c_1138 => ?_)
        · skip
          have gc_1138 := ti_eq c_1138 rfl kc_0
          obtain ⟨x_1139, ex_1139⟩ : ∃ z : Int32, z = z_1133 + Int32.ofInt (-1) := ⟨_, rfl⟩
          have vx_1139 : x_1139.toInt = z_1133.toInt + (-1) := ti_add (y := (-1)) ex_1139 rfl kc_m1 (om_7c9e45be hi0_n_1135.1) (om_27bcd485 hi0_n_1135.2)
          refine lv_iinc (v := x_1139) (lv' := [(2, .int x_1139), (0, .ref oL), (1, .ref oC)]) hx hb dX4_weighNextNight_32 hl (k := 0) rfl ex_1139.symm (by decide) rfl (fun ls hl => ?_)
          refine lv_goto (tgt := 7) hx hb dX4_weighNextNight_35 (by decide) ?_
          exact ih_n_1135 x_1139 f_1134 _ _ _  ⟨(om_73d763a0 gc_1136 vx_1139), (om_96a52bfb hi0_n_1135.2 vx_1139)⟩ (ms_lt hm_n_1135 (om_a2cb7fa1 vx_1139) (om_9b4dc480 gc_1136)) hP hD hS (lv_sub hl [0, 1, 2] rfl)
        · skip
          have gc_1138 := ti_ne c_1138 rfl kc_0
          refine lv_aload_n hx hb dX4_weighNextNight_20 rfl (lv_at hl 1 rfl) ?_
          refine va_get (D := (dC, dI)) (ci := 4) (v := .ref rL_values) (C := RX4) (T := TX4) (N := 2) hx hb hts inX4 hown hK hP 0 rfl rfl 0 (by decide) (hts _ wd_146) (fun _ h9 => h9) rfl dX4_weighNextNight_21 ?_
          refine lv_iload_n hx hb dX4_weighNextNight_24 rfl (lv_at hl 0 rfl) ?_
          refine lv_aload_n hx hb dX4_weighNextNight_25 rfl (lv_at hl 1 rfl) ?_
          refine lv_aload_n hx hb dX4_weighNextNight_26 rfl (lv_at hl 2 rfl) ?_
          refine lv_iload_n hx hb dX4_weighNextNight_27 rfl (lv_at hl 0 rfl) ?_
          have hFc := va_freeI hD hS hA
          refine va_calli (va_runV (As := [.ref oC, .int z_1133]) (rest := [.int z_1133, .ref rL_values]) ⟨hx, hb, hml, hown, hts⟩ (tX4_joined l dC dI _ oL rL_values f_1134 kL_values rL_supposed oC iC_nodes iC_words iC_chances iC_unsures iC_slips iC_throneNode iC_saidWorth iC_unit rC_kind fC_kind kC_kind rC_parts fC_parts kC_parts rC_partNodes fC_partNodes kC_partNodes rC_weights fC_weights kC_weights rC_weightSums fC_weightSums kC_weightSums rC_toldWorths rC_steps rC_below rC_above rC_unsureWords rC_unsureWorths z_1133 b_iC_nodes b_iC_unsures b_iC_throneNode a_fC_parts a_fC_partNodes ⟨gc_1136, hi0_n_1135.2⟩) (cwV 2 hts (wd_V wd_619 wd_620 wd_621 wd_37 (wd_c wd_622)) rfl rfl rfl dv_yX4_joined_2 ⟨Nat.le_of_ble_eq_true rfl, Nat.le_of_ble_eq_true rfl⟩) ⟨Pw.fb, recvX4 hK hP (q0 := 0) rfl, fun U hU hW => Pw.to hP hD hK hE hS hFc hU hW⟩ rfl rfl hl.1 rfl (lv_room (Nat.le_of_ble_eq_true rfl)) dX4_weighNextNight_28 ⟨Nat.le_of_ble_eq_true rfl, Nat.le_of_ble_eq_true rfl⟩) hS (fun q _ h => hFc q h) hFc (fun r u t H locs ht hvm hw hB hz1 hk1 hS => ?_)
          have hru9 := hw.2
          have hw := hw.1
          obtain ⟨hP, hD⟩ := Bw.goA (ws' := [(oc4 oL rL_values rL_supposed), (arI rL_values kL_values 18 f_1134), (oc1 oC iC_nodes iC_words iC_chances iC_unsures iC_slips iC_throneNode iC_saidWorth iC_unit rC_kind rC_parts rC_partNodes rC_weights rC_weightSums rC_toldWorths rC_steps rC_below rC_above rC_unsureWords rC_unsureWorths), (arI rC_kind kC_kind 18 fC_kind), (arI rC_parts kC_parts 18 fC_parts), (arI rC_partNodes kC_partNodes 72 fC_partNodes), (arI rC_weights kC_weights 72 fC_weights), (arI rC_weightSums kC_weightSums 18 fC_weightSums)]) hB rfl ht hFc rfl
          clear hz1 hk1 hvm ht hB
          obtain ⟨x_1140, rfl⟩ : ∃ z, z = r := ⟨_, rfl⟩
          refine vz_iast hx hb hK hP hD hS 1 0 rfl rfl (ti_in rfl gc_1136 (om_b3735a34 hi0_n_1135.2)) dX4_weighNextNight_31 (fun H locs f_1141 hP hD hS => ?_)
          obtain ⟨hP, hD⟩ := wl2 (ws' := [(oc4 oL rL_values rL_supposed), (arI rL_values kL_values 18 f_1141), (oc1 oC iC_nodes iC_words iC_chances iC_unsures iC_slips iC_throneNode iC_saidWorth iC_unit rC_kind rC_parts rC_partNodes rC_weights rC_weightSums rC_toldWorths rC_steps rC_below rC_above rC_unsureWords rC_unsureWorths), (arI rC_kind kC_kind 18 fC_kind), (arI rC_parts kC_parts 18 fC_parts), (arI rC_partNodes kC_partNodes 72 fC_partNodes), (arI rC_weights kC_weights 72 fC_weights), (arI rC_weightSums kC_weightSums 18 fC_weightSums)]) hP hD rfl
          obtain ⟨x_1142, ex_1142⟩ : ∃ z : Int32, z = z_1133 + Int32.ofInt (-1) := ⟨_, rfl⟩
          have vx_1142 : x_1142.toInt = z_1133.toInt + (-1) := ti_add (y := (-1)) ex_1142 rfl kc_m1 (om_7c9e45be hi0_n_1135.1) (om_27bcd485 hi0_n_1135.2)
          refine lv_iinc (v := x_1142) (lv' := [(2, .int x_1142), (0, .ref oL), (1, .ref oC)]) hx hb dX4_weighNextNight_32 hl (k := 0) rfl ex_1142.symm (by decide) rfl (fun ls hl => ?_)
          refine lv_goto (tgt := 7) hx hb dX4_weighNextNight_35 (by decide) ?_
          exact ih_n_1135 x_1142 f_1141 _ _ _  ⟨(om_73d763a0 gc_1136 vx_1142), (om_96a52bfb hi0_n_1135.2 vx_1142)⟩ (ms_lt hm_n_1135 (om_a2cb7fa1 vx_1142) (om_9b4dc480 gc_1136)) hP hD hS (lv_sub hl [0, 1, 2] rfl)
  exact key_n_1135 (((x_1132.toInt - (-1)).toNat) + 1) x_1132 fL_values _ _ _  ⟨(om_73d763a0 b_iC_nodes.1 vx_1132), (om_18eccbe9 b_iC_nodes.2 vx_1132)⟩ (Nat.lt_add_one _) hP hD hS hl
