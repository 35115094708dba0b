set_option maxHeartbeats 4000000 in
set_option maxRecDepth 100000 in
theorem tX4_throneValue (l : Launch) (dC : Nat → ClassId) (dI : Nat → Nat → Nat) (sz : Nat) (oL : Nat) (rL_values : Nat) (fL_values : Nat → Int32) (kL_values : ClassId) (rL_supposed : Nat) (oC : Nat) (iC_nodes : Int32) (iC_words : Int32) (iC_chances : Int32) (iC_unsures : Int32) (iC_slips : Int32) (iC_throneNode : Int32) (iC_saidWorth : Int32) (iC_unit : Int32) (rC_kind : Nat) (rC_parts : Nat) (rC_partNodes : Nat) (rC_weights : Nat) (rC_weightSums : Nat) (rC_toldWorths : Nat) (rC_steps : Nat) (rC_below : Nat) (rC_above : Nat) (rC_unsureWords : Nat) (rC_unsureWorths : Nat) (b_iC_nodes : 0 ≤ iC_nodes.toInt ∧ iC_nodes.toInt ≤ 18) (b_iC_unsures : 0 ≤ iC_unsures.toInt ∧ iC_unsures.toInt ≤ 4) (b_iC_throneNode : (-1) ≤ iC_throneNode.toInt ∧ iC_throneNode.toInt ≤ 17)  : Met l yX4_throneValue (Cond.code yX4_throneValue cX4_throneValue 2 (some .int) :: wG) ({ frames := 1, cells := 0, slots := 0, locals := 21 }) (va_Pc [.ref oL, .ref oC] (Pw dC dI sz [(oc4 oL rL_values rL_supposed), (arI rL_values kL_values 18 fL_values), (oc1 oC iC_nodes iC_words iC_chances iC_unsures iC_slips iC_throneNode iC_saidWorth iC_unit rC_kind rC_parts rC_partNodes rC_weights rC_weightSums rC_toldWorths rC_steps rC_below rC_above rC_unsureWords rC_unsureWorths)] [(kL_values, .int)])) (va_Qi (fun (r : Int32) (_ : Nat) => (True ∧ True) ∧ PX4_throneValue fL_values iC_nodes iC_throneNode = r) (fun (_ : Nat) (t : State) => Bw dC dI (va_A [(oc4 oL rL_values rL_supposed), (arI rL_values kL_values 18 fL_values), (oc1 oC iC_nodes iC_words iC_chances iC_unsures iC_slips iC_throneNode iC_saidWorth iC_unit rC_kind rC_parts rC_partNodes rC_weights rC_weightSums rC_toldWorths rC_steps rC_below rC_above rC_unsureWords rC_unsureWorths)] sz) [(oc4 oL rL_values rL_supposed), (arI rL_values kL_values 18 fL_values), (oc1 oC iC_nodes iC_words iC_chances iC_unsures iC_slips iC_throneNode iC_saidWorth iC_unit rC_kind rC_parts rC_partNodes rC_weights rC_weightSums rC_toldWorths rC_steps rC_below rC_above rC_unsureWords rC_unsureWorths)] [(kL_values, .int)] t) (va_A [(oc4 oL rL_values rL_supposed), (arI rL_values kL_values 18 fL_values), (oc1 oC iC_nodes iC_words iC_chances iC_unsures iC_slips iC_throneNode iC_saidWorth iC_unit rC_kind rC_parts rC_partNodes rC_weights rC_weightSums rC_toldWorths rC_steps rC_below rC_above rC_unsureWords rC_unsureWorths)] sz)) 0 0 (va_A [(oc4 oL rL_values rL_supposed), (arI rL_values kL_values 18 fL_values), (oc1 oC iC_nodes iC_words iC_chances iC_unsures iC_slips iC_throneNode iC_saidWorth iC_unit rC_kind rC_parts rC_partNodes rC_weights rC_weightSums rC_toldWorths rC_steps rC_below rC_above rC_unsureWords rC_unsureWorths)] sz) := by
  refine Met.ofW (cc := cX4_throneValue) (maxL := 2) (ret := (some .int)) pnX4 rfl ?_
  intro p e s m args below meth c s₁ B hml hv
  obtain ⟨rfl, hsz, hP, hK, hD0, hE⟩ := hv
  have hx := B.exec
  have hb := B.bytes
  have hr := B.returns
  have hts : ∀ w ∈ wG, w.before ([.ref oL, .ref oC] : List Value).toArray s = true := fun w h => atoms_spec (ws := Cond.code yX4_throneValue cX4_throneValue 2 (some .int) :: wG) B.pre w (List.mem_cons_of_mem _ h)
  have hown : s.vm.findClass RX4 = some m.cls := own_of B.named rfl
  have hlocks := B.notSynchronized
  subst hsz
  have hD := hD0.self (sz := s.heap.size)
  generalize hAe : va_A [(oc4 oL rL_values rL_supposed), (arI rL_values kL_values 18 fL_values), (oc1 oC iC_nodes iC_words iC_chances iC_unsures iC_slips iC_throneNode iC_saidWorth iC_unit rC_kind rC_parts rC_partNodes rC_weights rC_weightSums rC_toldWorths rC_steps rC_below rC_above rC_unsureWords rC_unsureWorths)] s.heap.size = A at hD hE ⊢
  have hA : ∀ q : Nat, s.heap.size ≤ q → A q := fun q h => by rw [← hAe]; exact Or.inr h
  have hS : va_S A s.heap s.heap [] := va_S.rf
  have hl := lv_entry ([.ref oL, .ref oC]) (n := 2) (Nat.le_of_ble_eq_true rfl)
  rw [lg_entry_eq]
  generalize (lg_sl ([.ref oL, .ref oC]) ++ List.replicate (2 - (lg_sl ([.ref oL, .ref oC])).length) Slot.unset).toArray = ls at hl ⊢
  have hl : lv_has ls 2 [(0, .ref oL), (1, .ref oC)] := hl
  have hG := PX4_throneValue_eq fL_values iC_nodes iC_throneNode
  refine lv_aload_n hx hb dX4_throneValue_0 rfl (lv_at hl 1 rfl) ?_
  refine lv_aload_n hx hb dX4_throneValue_1 rfl (lv_at hl 1 rfl) ?_
  refine va_get (D := (dC, dI)) (ci := 1) (v := .int iC_throneNode) (C := RX1) (T := TX1) (N := 19) hx hb hts inX1 hown hK hP 2 rfl rfl 5 (by decide) (hts _ wd_633) (fun _ h9 => h9) rfl dX4_throneValue_2 ?_
  have hMs := ml_of hD [false, false, true] (wc := [(oc1 oC iC_nodes iC_words iC_chances iC_unsures iC_slips iC_throneNode iC_saidWorth iC_unit rC_kind rC_parts rC_partNodes rC_weights rC_weightSums rC_toldWorths rC_steps rC_below rC_above rC_unsureWords rC_unsureWorths)]) rfl
  have hFc := va_freeM hD hS hA _ hMs
  refine va_calli (va_runV (As := [.int iC_throneNode]) (rest := []) ⟨hx, hb, hml, hown, hts⟩ (tX1_hasNode l dC dI _ oC iC_nodes iC_words iC_chances iC_unsures iC_slips iC_throneNode iC_saidWorth iC_unit rC_kind rC_parts rC_partNodes rC_weights rC_weightSums rC_toldWorths rC_steps rC_below rC_above rC_unsureWords rC_unsureWorths iC_throneNode b_iC_nodes b_iC_unsures b_iC_throneNode) (cwV 1 hts (wd_V wd_634 wd_326 wd_327 wd_19 (wd_c wd_328)) rfl rfl rfl dv_yX1_hasNode_1 ⟨Nat.le_of_ble_eq_true rfl, Nat.le_of_ble_eq_true rfl⟩) ⟨Pw.fb, recvX1 hK hP (q0 := 2) rfl, fun U hU hW => Pw.to (hP.ms _ hMs) (hD.ms _ hMs) (hK.ms [false] rfl) hE hS hFc hU hW⟩ rfl rfl hl.1 rfl (lv_room (Nat.le_of_ble_eq_true rfl)) dX4_throneValue_5 ⟨Nat.le_of_ble_eq_true rfl, Nat.le_of_ble_eq_true rfl⟩) hS (fun q _ h => hFc q h) hFc (fun r u t H locs ht hvm hw hB hz1 hk1 hS => ?_)
  have hru9 := hw.2
  have hw := hw.1
  obtain ⟨hP, hD⟩ := Bw.goN (ws' := [(oc4 oL rL_values rL_supposed), (arI rL_values kL_values 18 fL_values), (oc1 oC iC_nodes iC_words iC_chances iC_unsures iC_slips iC_throneNode iC_saidWorth iC_unit rC_kind rC_parts rC_partNodes rC_weights rC_weightSums rC_toldWorths rC_steps rC_below rC_above rC_unsureWords rC_unsureWorths)]) hB rfl ht hP hD _ hMs hk1 hFc rfl
  clear hz1 hk1 hvm ht hB hMs
  rcases hw.2 with ⟨rfl, hc_753⟩ | ⟨rfl, hc_753⟩
  · skip
    have hG := hG.trans (lt_eq hru9.symm)
    have hG := hG.trans (if_pos rfl)
    refine lv_if_eq (tgt := 23) hx hb dX4_throneValue_8 (by decide) (fun c => absurd c (by decide)) (fun _ => ?_)
    refine lv_aload_n hx hb dX4_throneValue_11 rfl (lv_at hl 0 rfl) ?_
    refine va_get (D := (dC, dI)) (ci := 4) (v := .ref rL_values) (C := RX4) (T := TX4) (N := 2) hx hb hts inX4 hown hK hP 0 rfl rfl 0 (by decide) (hts _ wd_146) (fun _ h9 => h9) rfl dX4_throneValue_12 ?_
    refine lv_aload_n hx hb dX4_throneValue_15 rfl (lv_at hl 1 rfl) ?_
    refine va_get (D := (dC, dI)) (ci := 1) (v := .int iC_throneNode) (C := RX1) (T := TX1) (N := 19) hx hb hts inX1 hown hK hP 2 rfl rfl 5 (by decide) (hts _ wd_633) (fun _ h9 => h9) rfl dX4_throneValue_16 ?_
    refine va_iald hx hb hK hP 1 0 rfl rfl (ti_in rfl hc_753.1 (om_b3735a34 b_iC_throneNode.2)) dX4_throneValue_19 ?_
    refine lv_topi (fun x_756 ex_756 => ?_)
    have hG := hG.trans (lt_eq ex_756)
    have kx_756 : (fL_values iC_throneNode.toNatClampNeg).toInt = x_756.toInt := by rw [ex_756]
    refine lv_goto (tgt := 24) hx hb dX4_throneValue_20 (by decide) ?_
    exact wq_i hx hb hr 0 ⟨⟨trivial, trivial⟩, hG⟩ (fun t ht hW => Bw.to hP hD hK ht hW) hS dX4_throneValue_24 hlocks
  · skip
    have hG := hG.trans (lt_eq hru9.symm)
    have hG := hG.trans (if_neg (by decide))
    refine lv_if_eq (tgt := 23) hx hb dX4_throneValue_8 (by decide) (fun _ => ?_) (fun c => absurd c (by decide))
    refine lv_iconst (v := 0) hx hb dX4_throneValue_23 (by decide) ?_
    exact wq_i hx hb hr 0 ⟨⟨trivial, trivial⟩, hG⟩ (fun t ht hW => Bw.to hP hD hK ht hW) hS dX4_throneValue_24 hlocks
set_option maxHeartbeats 4000000 in
set_option maxRecDepth 100000 in
theorem tX4_joined (l : Launch) (dC : Nat → ClassId) (dI : Nat → Nat → Nat) (sz : Nat) (oL : Nat) (rL_values : Nat) (fL_values : Nat → Int32) (kL_values : ClassId) (rL_supposed : Nat) (oC : Nat) (iC_nodes : Int32) (iC_words : Int32) (iC_chances : Int32) (iC_unsures : Int32) (iC_slips : Int32) (iC_throneNode : Int32) (iC_saidWorth : Int32) (iC_unit : Int32) (rC_kind : Nat) (fC_kind : Nat → Int32) (kC_kind : ClassId) (rC_parts : Nat) (fC_parts : Nat → Int32) (kC_parts : ClassId) (rC_partNodes : Nat) (fC_partNodes : Nat → Int32) (kC_partNodes : ClassId) (rC_weights : Nat) (fC_weights : Nat → Int32) (kC_weights : ClassId) (rC_weightSums : Nat) (fC_weightSums : Nat → Int32) (kC_weightSums : ClassId) (rC_toldWorths : Nat) (rC_steps : Nat) (rC_below : Nat) (rC_above : Nat) (rC_unsureWords : Nat) (rC_unsureWorths : Nat) (p0 : Int32) (b_iC_nodes : 0 ≤ iC_nodes.toInt ∧ iC_nodes.toInt ≤ 18) (b_iC_unsures : 0 ≤ iC_unsures.toInt ∧ iC_unsures.toInt ≤ 4) (b_iC_throneNode : (-1) ≤ iC_throneNode.toInt ∧ iC_throneNode.toInt ≤ 17) (a_fC_parts : ∀ j : Nat, j < 18 → 0 ≤ (fC_parts j).toInt ∧ (fC_parts j).toInt ≤ 4) (a_fC_partNodes : ∀ j : Nat, j < 72 → 0 ≤ (fC_partNodes j).toInt ∧ (fC_partNodes j).toInt ≤ 17) (hp0 : 0 ≤ p0.toInt ∧ p0.toInt ≤ 17) : Met l yX4_joined (Cond.code yX4_joined cX4_joined 8 (some .int) :: wG) ({ frames := 1, cells := 0, slots := 0, locals := 21 }) (va_Pc [.ref oL, .ref oC, .int p0] (Pw dC dI sz [(oc4 oL rL_values rL_supposed), (arI rL_values kL_values 18 fL_values), (oc1 oC iC_nodes iC_words iC_chances iC_unsures iC_slips iC_throneNode iC_saidWorth iC_unit rC_kind rC_parts rC_partNodes rC_weights rC_weightSums rC_toldWorths rC_steps rC_below rC_above rC_unsureWords rC_unsureWorths), (arI rC_kind kC_kind 18 fC_kind), (arI rC_parts kC_parts 18 fC_parts), (arI rC_partNodes kC_partNodes 72 fC_partNodes), (arI rC_weights kC_weights 72 fC_weights), (arI rC_weightSums kC_weightSums 18 fC_weightSums)] [(kL_values, .int), (kC_kind, .int), (kC_parts, .int), (kC_partNodes, .int), (kC_weights, .int), (kC_weightSums, .int)])) (va_Qi (fun (r : Int32) (_ : Nat) => (True ∧ True) ∧ PX4_joined fL_values fC_kind fC_parts fC_partNodes fC_weights fC_weightSums p0 = r) (fun (_ : Nat) (t : State) => Bw dC dI (va_A [(oc4 oL rL_values rL_supposed), (arI rL_values kL_values 18 fL_values), (oc1 oC iC_nodes iC_words iC_chances iC_unsures iC_slips iC_throneNode iC_saidWorth iC_unit rC_kind rC_parts rC_partNodes rC_weights rC_weightSums rC_toldWorths rC_steps rC_below rC_above rC_unsureWords rC_unsureWorths), (arI rC_kind kC_kind 18 fC_kind), (arI rC_parts kC_parts 18 fC_parts), (arI rC_partNodes kC_partNodes 72 fC_partNodes), (arI rC_weights kC_weights 72 fC_weights), (arI rC_weightSums kC_weightSums 18 fC_weightSums)] sz) [(oc4 oL rL_values rL_supposed), (arI rL_values kL_values 18 fL_values), (oc1 oC iC_nodes iC_words iC_chances iC_unsures iC_slips iC_throneNode iC_saidWorth iC_unit rC_kind rC_parts rC_partNodes rC_weights rC_weightSums rC_toldWorths rC_steps rC_below rC_above rC_unsureWords rC_unsureWorths), (arI rC_kind kC_kind 18 fC_kind), (arI rC_parts kC_parts 18 fC_parts), (arI rC_partNodes kC_partNodes 72 fC_partNodes), (arI rC_weights kC_weights 72 fC_weights), (arI rC_weightSums kC_weightSums 18 fC_weightSums)] [(kL_values, .int), (kC_kind, .int), (kC_parts, .int), (kC_partNodes, .int), (kC_weights, .int), (kC_weightSums, .int)] t) (va_A [(oc4 oL rL_values rL_supposed), (arI rL_values kL_values 18 fL_values), (oc1 oC iC_nodes iC_words iC_chances iC_unsures iC_slips iC_throneNode iC_saidWorth iC_unit rC_kind rC_parts rC_partNodes rC_weights rC_weightSums rC_toldWorths rC_steps rC_below rC_above rC_unsureWords rC_unsureWorths), (arI rC_kind kC_kind 18 fC_kind), (arI rC_parts kC_parts 18 fC_parts), (arI rC_partNodes kC_partNodes 72 fC_partNodes), (arI rC_weights kC_weights 72 fC_weights), (arI rC_weightSums kC_weightSums 18 fC_weightSums)] sz)) 0 0 (va_A [(oc4 oL rL_values rL_supposed), (arI rL_values kL_values 18 fL_values), (oc1 oC iC_nodes iC_words iC_chances iC_unsures iC_slips iC_throneNode iC_saidWorth iC_unit rC_kind rC_parts rC_partNodes rC_weights rC_weightSums rC_toldWorths rC_steps rC_below rC_above rC_unsureWords rC_unsureWorths), (arI rC_kind kC_kind 18 fC_kind), (arI rC_parts kC_parts 18 fC_parts), (arI rC_partNodes kC_partNodes 72 fC_partNodes), (arI rC_weights kC_weights 72 fC_weights), (arI rC_weightSums kC_weightSums 18 fC_weightSums)] sz) := by
  refine Met.ofW (cc := cX4_joined) (maxL := 8) (ret := (some .int)) pnX4 rfl ?_
  intro p e s m args below meth c s₁ B hml hv
  obtain ⟨rfl, hsz, hP, hK, hD0, hE⟩ := hv
  have hx := B.exec
  have hb := B.bytes
  have hr := B.returns
  have hts : ∀ w ∈ wG, w.before ([.ref oL, .ref oC, .int p0] : List Value).toArray s = true := fun w h => atoms_spec (ws := Cond.code yX4_joined cX4_joined 8 (some .int) :: wG) B.pre w (List.mem_cons_of_mem _ h)
  have hown : s.vm.findClass RX4 = some m.cls := own_of B.named rfl
  have hlocks := B.notSynchronized
  subst hsz
  have hD := hD0.self (sz := s.heap.size)
  generalize hAe : va_A [(oc4 oL rL_values rL_supposed), (arI rL_values kL_values 18 fL_values), (oc1 oC iC_nodes iC_words iC_chances iC_unsures iC_slips iC_throneNode iC_saidWorth iC_unit rC_kind rC_parts rC_partNodes rC_weights rC_weightSums rC_toldWorths rC_steps rC_below rC_above rC_unsureWords rC_unsureWorths), (arI rC_kind kC_kind 18 fC_kind), (arI rC_parts kC_parts 18 fC_parts), (arI rC_partNodes kC_partNodes 72 fC_partNodes), (arI rC_weights kC_weights 72 fC_weights), (arI rC_weightSums kC_weightSums 18 fC_weightSums)] s.heap.size = A at hD hE ⊢
  have hA : ∀ q : Nat, s.heap.size ≤ q → A q := fun q h => by rw [← hAe]; exact Or.inr h
  have hS : va_S A s.heap s.heap [] := va_S.rf
  have hl := lv_entry ([.ref oL, .ref oC, .int p0]) (n := 8) (Nat.le_of_ble_eq_true rfl)
  rw [lg_entry_eq]
  generalize (lg_sl ([.ref oL, .ref oC, .int p0]) ++ List.replicate (8 - (lg_sl ([.ref oL, .ref oC, .int p0])).length) Slot.unset).toArray = ls at hl ⊢
  have hl : lv_has ls 8 [(0, .ref oL), (1, .ref oC), (2, .int p0)] := hl
  have hG := PX4_joined_eq fL_values fC_kind fC_parts fC_partNodes fC_weights fC_weightSums p0
  have rg_p0 := fb_rng p0
  refine lv_aload_n hx hb dX4_joined_0 rfl (lv_at hl 1 rfl) ?_
  refine va_get (D := (dC, dI)) (ci := 1) (v := .ref rC_kind) (C := RX1) (T := TX1) (N := 19) hx hb hts inX1 hown hK hP 2 rfl rfl 8 (by decide) (hts _ wd_617) (fun _ h9 => h9) rfl dX4_joined_1 ?_
  refine lv_iload_n hx hb dX4_joined_4 rfl (lv_at hl 2 rfl) ?_
  refine va_iald hx hb hK hP 3 1 rfl rfl (ti_in rfl hp0.1 (om_b3735a34 hp0.2)) dX4_joined_5 ?_
  refine lv_topi (fun x_800 ex_800 => ?_)
  have hG := hG.trans (lt_eq ex_800)
  have rg_x_800 := fb_rng x_800
  have kx_800 : (fC_kind p0.toNatClampNeg).toInt = x_800.toInt := by rw [ex_800]
  refine lv_istore_n (lv' := [(3, .int x_800), (0, .ref oL), (1, .ref oC), (2, .int p0)]) hx hb dX4_joined_6 rfl hl (by decide) rfl (fun ls hl => ?_)
  refine lv_iconst (v := 0) hx hb dX4_joined_7 (by decide) ?_
  refine lv_istore (lv' := [(4, .int 0), (3, .int x_800), (0, .ref oL), (1, .ref oC), (2, .int p0)]) hx hb dX4_joined_8 hl (by decide) rfl (fun ls hl => ?_)
  refine lv_iconst (v := 0) hx hb dX4_joined_10 (by decide) ?_
  refine lv_istore (lv' := [(5, .int 0), (4, .int 0), (3, .int x_800), (0, .ref oL), (1, .ref oC), (2, .int p0)]) hx hb dX4_joined_11 hl (by decide) rfl (fun ls hl => ?_)
  have hl := lv_sub hl (l' := [(5, .int 0), (4, .int 0), (3, .int x_800), (0, .ref oL), (1, .ref oC), (2, .int p0)]) [0, 1, 2, 3, 4, 5] rfl
  have key_n_803 : ∀ (n_803 : Nat) (z_801 : Int32) (z_802 : Int32) (H : Heap) (locs : List Loc) (ls : Array Slot), (0 ≤ z_801.toInt ∧ z_801.toInt ≤ 2147483647) → (2147483647 - z_801.toInt).toNat < n_803 → (PX4_joined fL_values fC_kind fC_parts fC_partNodes fC_weights fC_weightSums p0 = HX4_joined_0 fL_values fC_parts fC_partNodes fC_weights fC_weightSums p0 x_800 n_803 z_801 z_802) → va_P (dC, dI) vwCl [(oc4 oL rL_values rL_supposed), (arI rL_values kL_values 18 fL_values), (oc1 oC iC_nodes iC_words iC_chances iC_unsures iC_slips iC_throneNode iC_saidWorth iC_unit rC_kind rC_parts rC_partNodes rC_weights rC_weightSums rC_toldWorths rC_steps rC_below rC_above rC_unsureWords rC_unsureWorths), (arI rC_kind kC_kind 18 fC_kind), (arI rC_parts kC_parts 18 fC_parts), (arI rC_partNodes kC_partNodes 72 fC_partNodes), (arI rC_weights kC_weights 72 fC_weights), (arI rC_weightSums kC_weightSums 18 fC_weightSums)] H → va_D A [(oc4 oL rL_values rL_supposed), (arI rL_values kL_values 18 fL_values), (oc1 oC iC_nodes iC_words iC_chances iC_unsures iC_slips iC_throneNode iC_saidWorth iC_unit rC_kind rC_parts rC_partNodes rC_weights rC_weightSums rC_toldWorths rC_steps rC_below rC_above rC_unsureWords rC_unsureWorths), (arI rC_kind kC_kind 18 fC_kind), (arI rC_parts kC_parts 18 fC_parts), (arI rC_partNodes kC_partNodes 72 fC_partNodes), (arI rC_weights kC_weights 72 fC_weights), (arI rC_weightSums kC_weightSums 18 fC_weightSums)] → va_S A s.heap H locs → lv_has ls 8 [(5, .int z_801), (4, .int z_802), (3, .int x_800), (0, .ref oL), (1, .ref oC), (2, .int p0)] → W p l e (headSpec (Cond.code yX4_joined cX4_joined 8 (some .int) :: wG) ({ frames := 1, cells := 0, slots := 0, locals := 21 })).room s m ([.ref oL, .ref oC, .int p0] : List Value).toArray below meth c H locs 0 0 (MQ below (va_Qi (fun (r : Int32) (_ : Nat) => (True ∧ True) ∧ PX4_joined fL_values fC_kind fC_parts fC_partNodes fC_weights fC_weightSums p0 = r) (fun (_ : Nat) (t : State) => Bw dC dI A [(oc4 oL rL_values rL_supposed), (arI rL_values kL_values 18 fL_values), (oc1 oC iC_nodes iC_words iC_chances iC_unsures iC_slips iC_throneNode iC_saidWorth iC_unit rC_kind rC_parts rC_partNodes rC_weights rC_weightSums rC_toldWorths rC_steps rC_below rC_above rC_unsureWords rC_unsureWorths), (arI rC_kind kC_kind 18 fC_kind), (arI rC_parts kC_parts 18 fC_parts), (arI rC_partNodes kC_partNodes 72 fC_partNodes), (arI rC_weights kC_weights 72 fC_weights), (arI rC_weightSums kC_weightSums 18 fC_weightSums)] [(kL_values, .int), (kC_kind, .int), (kC_parts, .int), (kC_partNodes, .int), (kC_weights, .int), (kC_weightSums, .int)] t) A) ([.ref oL, .ref oC, .int p0] : List Value).toArray s 0 0 A) (F0 m 13 ls []) := by
    intro n_803
    induction n_803 with
    | zero => intro z_801 z_802 H locs ls hi0_n_803 hm; exact absurd hm (Nat.not_lt_zero _)
    | succ n_803 ih_n_803 =>
      intro z_801 z_802 H locs ls hi0_n_803 hm_n_803 hG hP hD hS hl
      have hG := hG.trans (HX4_joined_0_eq _ _ _ _ _ _ _ _ _ _)
      have rg_z_801 := fb_rng z_801
      have rg_z_802 := fb_rng z_802
      refine lv_iload hx hb dX4_joined_13 (lv_at hl 0 rfl) ?_
      refine lv_aload_n hx hb dX4_joined_15 rfl (lv_at hl 4 rfl) ?_
      refine va_get (D := (dC, dI)) (ci := 1) (v := .ref rC_parts) (C := RX1) (T := TX1) (N := 19) hx hb hts inX1 hown hK hP 2 rfl rfl 9 (by decide) (hts _ wd_623) (fun _ h9 => h9) rfl dX4_joined_16 ?_
      refine lv_iload_n hx hb dX4_joined_19 rfl (lv_at hl 5 rfl) ?_
      refine va_iald hx hb hK hP 4 2 rfl rfl (ti_in rfl hp0.1 (om_b3735a34 hp0.2)) dX4_joined_20 ?_
      refine lv_topi (fun x_804 ex_804 => ?_)
      have hG := hG.trans (lt_eq ex_804)
      have rg_x_804 := fb_rng x_804
      have kx_804 : (fC_parts p0.toNatClampNeg).toInt = x_804.toInt := by rw [ex_804]
      have ux_804 := a_fC_parts p0.toNatClampNeg (cl_lt rfl hp0.1 (om_b3735a34 hp0.2))
      rw [show fC_parts p0.toNatClampNeg = x_804 from ex_804.symm] at ux_804
      refine lv_icmp_ge (tgt := 106) hx hb dX4_joined_21 (by decide) (fun c_805 => ?_) (fun c_805 => ?_)
      · skip
        have hG := hG.trans (if_pos c_805)
        have gc_805 := ti_le c_805 rfl rfl
        refine lv_iload_n hx hb dX4_joined_106 rfl (lv_at hl 2 rfl) ?_
        refine lv_iconst (v := 3) hx hb dX4_joined_107 (by decide) ?_
        refine lv_icmp_ne (tgt := 125) hx hb dX4_joined_108 (by decide) (fun c_806 => ?_) (fun c_806 => ?_)
        · skip
          have hG := hG.trans (if_neg c_806)
          have gc_806 := ti_ne c_806 rfl kc_3
          refine lv_iload hx hb dX4_joined_125 (lv_at hl 1 rfl) ?_
          exact wq_i hx hb hr 0 ⟨⟨trivial, trivial⟩, hG⟩ (fun t ht hW => Bw.to hP hD hK ht hW) hS dX4_joined_127 hlocks
        · skip
          have hG := hG.trans (if_pos c_806)
          have gc_806 := ti_eq c_806 rfl kc_3
          refine lv_iload hx hb dX4_joined_111 (lv_at hl 1 rfl) ?_
          refine lv_aload_n hx hb dX4_joined_113 rfl (lv_at hl 4 rfl) ?_
          refine va_get (D := (dC, dI)) (ci := 1) (v := .ref rC_weightSums) (C := RX1) (T := TX1) (N := 19) hx hb hts inX1 hown hK hP 2 rfl rfl 12 (by decide) (hts _ wd_626) (fun _ h9 => h9) rfl dX4_joined_114 ?_
          refine lv_iload_n hx hb dX4_joined_117 rfl (lv_at hl 5 rfl) ?_
          refine va_iald hx hb hK hP 7 5 rfl rfl (ti_in rfl hp0.1 (om_b3735a34 hp0.2)) dX4_joined_118 ?_
          refine lv_topi (fun x_807 ex_807 => ?_)
          have hG := hG.trans (lt_eq ex_807)
          have rg_x_807 := fb_rng x_807
          have kx_807 : (fC_weightSums p0.toNatClampNeg).toInt = x_807.toInt := by rw [ex_807]
          have hFc : ∀ q, va_A [] _ q → A q := fun q h => hA q (Nat.le_trans hS.1 (va_nilA h))
          refine va_calli (va_runSN (As := [.int z_802, .int x_807]) (rest := []) ⟨hx, hb, hml, hown, hts⟩ (tX6_wholeOf l dC dI _ z_802 x_807 ) ⟨va_cnB 2 hts (wd_c wd_628) rfl rfl rfl (hE.2.2.2.1 _ (List.mem_of_getElem? (i := 4) rfl)) (hts _ wd_2) (by decide +kernel) ⟨Nat.le_of_ble_eq_true rfl, Nat.le_of_ble_eq_true rfl⟩, hts _ wd_627, trivial⟩ ⟨Pw.fb, fun U hU hW => Pn.to hK hE hS hA hU hW⟩ rfl rfl hl.1 rfl (lv_room (Nat.le_of_ble_eq_true rfl)) dX4_joined_119 ⟨Nat.le_of_ble_eq_true rfl, Nat.le_of_ble_eq_true rfl⟩) hS (fun q _ h => hFc q h) hFc (fun r u t H locs ht hvm hw hB hz1 hk1 hS => ?_)
          obtain ⟨hP, hD, hK⟩ := Bw.same ht hvm hP hD hK hk1 hFc
          clear hz1 hk1 hvm ht hB
          have hq9 := hw.2
          have hw := hw.1
          obtain ⟨x_808, rfl⟩ : ∃ z, z = r := ⟨_, rfl⟩
          have hq_x_808 := hq9
          have hG := hG.trans (lt_eq hq_x_808.symm)
          have rg_x_808 := fb_rng x_808
          refine lv_goto (tgt := 127) hx hb dX4_joined_122 (by decide) ?_
          exact wq_i hx hb hr 0 ⟨⟨trivial, trivial⟩, hG⟩ (fun t ht hW => Bw.to hP hD hK ht hW) hS dX4_joined_127 hlocks
      · skip
        have hG := hG.trans (if_neg c_805)
        have gc_805 := ti_nle c_805 rfl rfl
        refine lv_iload_n hx hb dX4_joined_24 rfl (lv_at hl 5 rfl) ?_
        refine lv_iconst (v := 4) hx hb dX4_joined_25 (by decide) ?_
        refine lv_imul hx hb dX4_joined_26 ?_
        refine lv_topi (fun x_809 ex_809 => ?_)
        have hG := hG.trans (lt_eq ex_809)
        have vx_809 : x_809.toInt = 4 * p0.toInt := by have q := ti_mul ex_809 rfl kc_4 (by omega) (by omega); omega
        refine lv_iload hx hb dX4_joined_27 (lv_at hl 0 rfl) ?_
        refine lv_iadd hx hb dX4_joined_29 ?_
        refine lv_topi (fun x_810 ex_810 => ?_)
        have hG := hG.trans (lt_eq ex_810)
        have vx_810 : x_810.toInt = 4 * p0.toInt + z_801.toInt := om_5d0caf0f (ti_add ex_810 vx_809 rfl (om_056a216f hp0.1 hi0_n_803.1) (om_be3e613d hp0.2 ux_804.2 gc_805))
        refine lv_istore (lv' := [(6, .int x_810), (5, .int z_801), (4, .int z_802), (3, .int x_800), (0, .ref oL), (1, .ref oC), (2, .int p0)]) hx hb dX4_joined_30 hl (by decide) rfl (fun ls hl => ?_)
        refine lv_aload_n hx hb dX4_joined_32 rfl (lv_at hl 4 rfl) ?_
        refine va_get (D := (dC, dI)) (ci := 4) (v := .ref rL_values) (C := RX4) (T := TX4) (N := 2) hx hb hts inX4 hown hK hP 0 rfl rfl 0 (by decide) (hts _ wd_146) (fun _ h9 => h9) rfl dX4_joined_33 ?_
        refine lv_aload_n hx hb dX4_joined_36 rfl (lv_at hl 5 rfl) ?_
        refine va_get (D := (dC, dI)) (ci := 1) (v := .ref rC_partNodes) (C := RX1) (T := TX1) (N := 19) hx hb hts inX1 hown hK hP 2 rfl rfl 10 (by decide) (hts _ wd_624) (fun _ h9 => h9) rfl dX4_joined_37 ?_
        refine lv_iload hx hb dX4_joined_40 (lv_at hl 0 rfl) ?_
        refine va_iald hx hb hK hP 5 3 rfl rfl (ti_in vx_810 (om_fc2812d4 hp0.1 hi0_n_803.1) (om_b7e30450 hp0.2 ux_804.2 gc_805)) dX4_joined_42 ?_
        refine lv_topi (fun x_811 ex_811 => ?_)
        have hG := hG.trans (lt_eq ex_811)
        have rg_x_811 := fb_rng x_811
        have kx_811 : (fC_partNodes x_810.toNatClampNeg).toInt = x_811.toInt := by rw [ex_811]
        have ux_811 := a_fC_partNodes x_810.toNatClampNeg (cl_lt vx_810 (om_fc2812d4 hp0.1 hi0_n_803.1) (om_b7e30450 hp0.2 ux_804.2 gc_805))
        rw [show fC_partNodes x_810.toNatClampNeg = x_811 from ex_811.symm] at ux_811
        refine va_iald hx hb hK hP 1 0 rfl rfl (ti_in rfl ux_811.1 (om_b3735a34 ux_811.2)) dX4_joined_43 ?_
        refine lv_topi (fun x_812 ex_812 => ?_)
        have hG := hG.trans (lt_eq ex_812)
        have rg_x_812 := fb_rng x_812
        have kx_812 : (fL_values x_811.toNatClampNeg).toInt = x_812.toInt := by rw [ex_812]
        refine lv_istore (lv' := [(7, .int x_812), (6, .int x_810), (5, .int z_801), (4, .int z_802), (3, .int x_800), (0, .ref oL), (1, .ref oC), (2, .int p0)]) hx hb dX4_joined_44 hl (by decide) rfl (fun ls hl => ?_)
        refine lv_iload_n hx hb dX4_joined_46 rfl (lv_at hl 4 rfl) ?_
        refine lv_iconst (v := 3) hx hb dX4_joined_47 (by decide) ?_
        refine lv_icmp_ne (tgt := 69) hx hb dX4_joined_48 (by decide) (fun c_813 => ?_) (fun c_813 => ?_)
        · skip
          have hG := hG.trans (if_neg c_813)
          have gc_813 := ti_ne c_813 rfl kc_3
          refine lv_iload hx hb dX4_joined_69 (lv_at hl 2 rfl) ?_
          refine lv_if_eq (tgt := 96) hx hb dX4_joined_71 (by decide) (fun c_814 => ?_) (fun c_814 => ?_)
          · skip
            have hG := hG.trans (if_pos c_814)
            have gc_814 := ti_eq c_814 rfl kc_0
            refine lv_iload hx hb dX4_joined_96 (lv_at hl 0 rfl) ?_
            refine lv_istore (lv' := [(4, .int x_812), (7, .int x_812), (6, .int x_810), (5, .int z_801), (3, .int x_800), (0, .ref oL), (1, .ref oC), (2, .int p0)]) hx hb dX4_joined_98 hl (by decide) rfl (fun ls hl => ?_)
            obtain ⟨x_815, ex_815⟩ : ∃ z : Int32, z = z_801 + Int32.ofInt 1 := ⟨_, rfl⟩
            have hG := hG.trans (lt_eq ex_815)
            have vx_815 : x_815.toInt = z_801.toInt + 1 := ti_add (y := 1) ex_815 rfl kc_1 (om_4e4fce7e hi0_n_803.1) (om_f4fb5b9a gc_814)
            refine lv_iinc (v := x_815) (lv' := [(5, .int x_815), (4, .int x_812), (7, .int x_812), (6, .int x_810), (3, .int x_800), (0, .ref oL), (1, .ref oC), (2, .int p0)]) hx hb dX4_joined_100 hl (k := 3) rfl ex_815.symm (by decide) rfl (fun ls hl => ?_)
            refine lv_goto (tgt := 13) hx hb dX4_joined_103 (by decide) ?_
            exact ih_n_803 x_815 x_812 _ _ _  ⟨(om_83b90de5 hi0_n_803.1 vx_815), (om_b8edbab1 gc_814 vx_815)⟩ (ms_lt hm_n_803 (om_b9393183 vx_815) (om_ec9d7b39 gc_814)) hG hP hD hS (lv_sub hl [0, 1, 4, 5, 6, 7] rfl)
          · skip
            have hG := hG.trans (if_neg c_814)
            have gc_814 := ti_ne c_814 rfl kc_0
            refine lv_iload_n hx hb dX4_joined_74 rfl (lv_at hl 4 rfl) ?_
            refine lv_iconst (v := 1) hx hb dX4_joined_75 (by decide) ?_
            refine lv_icmp_ne (tgt := 89) hx hb dX4_joined_76 (by decide) (fun c_816 => ?_) (fun c_816 => ?_)
            · skip
              have hG := hG.trans (if_neg c_816)
              have gc_816 := ti_ne c_816 rfl kc_1
              refine lv_iload hx hb dX4_joined_89 (lv_at hl 0 rfl) ?_
              refine lv_iload hx hb dX4_joined_91 (lv_at hl 3 rfl) ?_
              refine lv_icmp_ge (tgt := 100) hx hb dX4_joined_93 (by decide) (fun c_817 => ?_) (fun c_817 => ?_)
              · skip
                have hG := hG.trans (if_pos c_817)
                have gc_817 := ti_le c_817 rfl rfl
                obtain ⟨x_818, ex_818⟩ : ∃ z : Int32, z = z_801 + Int32.ofInt 1 := ⟨_, rfl⟩
                have hG := hG.trans (lt_eq ex_818)
                have vx_818 : x_818.toInt = z_801.toInt + 1 := ti_add (y := 1) ex_818 rfl kc_1 (om_4e4fce7e hi0_n_803.1) (om_0ca29412 ux_804.2 gc_805)
                refine lv_iinc (v := x_818) (lv' := [(5, .int x_818), (7, .int x_812), (6, .int x_810), (4, .int z_802), (3, .int x_800), (0, .ref oL), (1, .ref oC), (2, .int p0)]) hx hb dX4_joined_100 hl (k := 2) rfl ex_818.symm (by decide) rfl (fun ls hl => ?_)
                refine lv_goto (tgt := 13) hx hb dX4_joined_103 (by decide) ?_
                exact ih_n_803 x_818 z_802 _ _ _  ⟨(om_83b90de5 hi0_n_803.1 vx_818), (om_008057e4 ux_804.2 gc_805 vx_818)⟩ (ms_lt hm_n_803 (om_b9393183 vx_818) (om_349eab4e ux_804.2 gc_805)) hG hP hD hS (lv_sub hl [0, 3, 4, 5, 6, 7] rfl)
              · skip
                have hG := hG.trans (if_neg c_817)
                have gc_817 := ti_nle c_817 rfl rfl
                refine lv_iload hx hb dX4_joined_96 (lv_at hl 0 rfl) ?_
                refine lv_istore (lv' := [(4, .int x_812), (7, .int x_812), (6, .int x_810), (5, .int z_801), (3, .int x_800), (0, .ref oL), (1, .ref oC), (2, .int p0)]) hx hb dX4_joined_98 hl (by decide) rfl (fun ls hl => ?_)
                obtain ⟨x_819, ex_819⟩ : ∃ z : Int32, z = z_801 + Int32.ofInt 1 := ⟨_, rfl⟩
                have hG := hG.trans (lt_eq ex_819)
                have vx_819 : x_819.toInt = z_801.toInt + 1 := ti_add (y := 1) ex_819 rfl kc_1 (om_4e4fce7e hi0_n_803.1) (om_0ca29412 ux_804.2 gc_805)
                refine lv_iinc (v := x_819) (lv' := [(5, .int x_819), (4, .int x_812), (7, .int x_812), (6, .int x_810), (3, .int x_800), (0, .ref oL), (1, .ref oC), (2, .int p0)]) hx hb dX4_joined_100 hl (k := 3) rfl ex_819.symm (by decide) rfl (fun ls hl => ?_)
                refine lv_goto (tgt := 13) hx hb dX4_joined_103 (by decide) ?_
                exact ih_n_803 x_819 x_812 _ _ _  ⟨(om_83b90de5 hi0_n_803.1 vx_819), (om_008057e4 ux_804.2 gc_805 vx_819)⟩ (ms_lt hm_n_803 (om_b9393183 vx_819) (om_349eab4e ux_804.2 gc_805)) hG hP hD hS (lv_sub hl [0, 1, 4, 5, 6, 7] rfl)
            · skip
              have hG := hG.trans (if_pos c_816)
              have gc_816 := ti_eq c_816 rfl kc_1
              refine lv_iload hx hb dX4_joined_79 (lv_at hl 0 rfl) ?_
              refine lv_iload hx hb dX4_joined_81 (lv_at hl 3 rfl) ?_
              refine lv_icmp_le (tgt := 100) hx hb dX4_joined_83 (by decide) (fun c_820 => ?_) (fun c_820 => ?_)
              · skip
                have hG := hG.trans (if_pos c_820)
                have gc_820 := ti_le c_820 rfl rfl
                obtain ⟨x_821, ex_821⟩ : ∃ z : Int32, z = z_801 + Int32.ofInt 1 := ⟨_, rfl⟩
                have hG := hG.trans (lt_eq ex_821)
                have vx_821 : x_821.toInt = z_801.toInt + 1 := ti_add (y := 1) ex_821 rfl kc_1 (om_4e4fce7e hi0_n_803.1) (om_0ca29412 ux_804.2 gc_805)
                refine lv_iinc (v := x_821) (lv' := [(5, .int x_821), (7, .int x_812), (6, .int x_810), (4, .int z_802), (3, .int x_800), (0, .ref oL), (1, .ref oC), (2, .int p0)]) hx hb dX4_joined_100 hl (k := 2) rfl ex_821.symm (by decide) rfl (fun ls hl => ?_)
                refine lv_goto (tgt := 13) hx hb dX4_joined_103 (by decide) ?_
                exact ih_n_803 x_821 z_802 _ _ _  ⟨(om_83b90de5 hi0_n_803.1 vx_821), (om_008057e4 ux_804.2 gc_805 vx_821)⟩ (ms_lt hm_n_803 (om_b9393183 vx_821) (om_349eab4e ux_804.2 gc_805)) hG hP hD hS (lv_sub hl [0, 3, 4, 5, 6, 7] rfl)
              · skip
                have hG := hG.trans (if_neg c_820)
                have gc_820 := ti_nle c_820 rfl rfl
                refine lv_goto (tgt := 96) hx hb dX4_joined_86 (by decide) ?_
                refine lv_iload hx hb dX4_joined_96 (lv_at hl 0 rfl) ?_
                refine lv_istore (lv' := [(4, .int x_812), (7, .int x_812), (6, .int x_810), (5, .int z_801), (3, .int x_800), (0, .ref oL), (1, .ref oC), (2, .int p0)]) hx hb dX4_joined_98 hl (by decide) rfl (fun ls hl => ?_)
                obtain ⟨x_822, ex_822⟩ : ∃ z : Int32, z = z_801 + Int32.ofInt 1 := ⟨_, rfl⟩
                have hG := hG.trans (lt_eq ex_822)
                have vx_822 : x_822.toInt = z_801.toInt + 1 := ti_add (y := 1) ex_822 rfl kc_1 (om_4e4fce7e hi0_n_803.1) (om_0ca29412 ux_804.2 gc_805)
                refine lv_iinc (v := x_822) (lv' := [(5, .int x_822), (4, .int x_812), (7, .int x_812), (6, .int x_810), (3, .int x_800), (0, .ref oL), (1, .ref oC), (2, .int p0)]) hx hb dX4_joined_100 hl (k := 3) rfl ex_822.symm (by decide) rfl (fun ls hl => ?_)
                refine lv_goto (tgt := 13) hx hb dX4_joined_103 (by decide) ?_
                exact ih_n_803 x_822 x_812 _ _ _  ⟨(om_83b90de5 hi0_n_803.1 vx_822), (om_008057e4 ux_804.2 gc_805 vx_822)⟩ (ms_lt hm_n_803 (om_b9393183 vx_822) (om_349eab4e ux_804.2 gc_805)) hG hP hD hS (lv_sub hl [0, 1, 4, 5, 6, 7] rfl)
        · skip
          have hG := hG.trans (if_pos c_813)
          have gc_813 := ti_eq c_813 rfl kc_3
          refine lv_iload hx hb dX4_joined_51 (lv_at hl 3 rfl) ?_
          refine lv_iload hx hb dX4_joined_53 (lv_at hl 0 rfl) ?_
          refine lv_aload_n hx hb dX4_joined_55 rfl (lv_at hl 6 rfl) ?_
          refine va_get (D := (dC, dI)) (ci := 1) (v := .ref rC_weights) (C := RX1) (T := TX1) (N := 19) hx hb hts inX1 hown hK hP 2 rfl rfl 11 (by decide) (hts _ wd_625) (fun _ h9 => h9) rfl dX4_joined_56 ?_
          refine lv_iload hx hb dX4_joined_59 (lv_at hl 1 rfl) ?_
          refine va_iald hx hb hK hP 6 4 rfl rfl (ti_in vx_810 (om_fc2812d4 hp0.1 hi0_n_803.1) (om_b7e30450 hp0.2 ux_804.2 gc_805)) dX4_joined_61 ?_
          refine lv_topi (fun x_823 ex_823 => ?_)
          have hG := hG.trans (lt_eq ex_823)
          have rg_x_823 := fb_rng x_823
          have kx_823 : (fC_weights x_810.toNatClampNeg).toInt = x_823.toInt := by rw [ex_823]
          refine lv_imul hx hb dX4_joined_62 ?_
          refine lv_topi (fun x_824 ex_824 => ?_)
          have hG := hG.trans (lt_eq ex_824)
          have rg_x_824 := fb_rng x_824
          refine lv_iadd hx hb dX4_joined_63 ?_
          refine lv_topi (fun x_825 ex_825 => ?_)
          have hG := hG.trans (lt_eq ex_825)
          have rg_x_825 := fb_rng x_825
          refine lv_istore (lv' := [(4, .int x_825), (7, .int x_812), (6, .int x_810), (5, .int z_801), (3, .int x_800), (0, .ref oL), (1, .ref oC), (2, .int p0)]) hx hb dX4_joined_64 hl (by decide) rfl (fun ls hl => ?_)
          refine lv_goto (tgt := 100) hx hb dX4_joined_66 (by decide) ?_
          obtain ⟨x_826, ex_826⟩ : ∃ z : Int32, z = z_801 + Int32.ofInt 1 := ⟨_, rfl⟩
          have hG := hG.trans (lt_eq ex_826)
          have vx_826 : x_826.toInt = z_801.toInt + 1 := ti_add (y := 1) ex_826 rfl kc_1 (om_4e4fce7e hi0_n_803.1) (om_0ca29412 ux_804.2 gc_805)
          refine lv_iinc (v := x_826) (lv' := [(5, .int x_826), (4, .int x_825), (7, .int x_812), (6, .int x_810), (3, .int x_800), (0, .ref oL), (1, .ref oC), (2, .int p0)]) hx hb dX4_joined_100 hl (k := 3) rfl ex_826.symm (by decide) rfl (fun ls hl => ?_)
          refine lv_goto (tgt := 13) hx hb dX4_joined_103 (by decide) ?_
          exact ih_n_803 x_826 x_825 _ _ _  ⟨(om_83b90de5 hi0_n_803.1 vx_826), (om_008057e4 ux_804.2 gc_805 vx_826)⟩ (ms_lt hm_n_803 (om_b9393183 vx_826) (om_349eab4e ux_804.2 gc_805)) hG hP hD hS (lv_sub hl [0, 1, 4, 5, 6, 7] rfl)
  exact key_n_803 (((2147483647 - (0 : Int32).toInt).toNat) + 1) 0 0 _ _ _  ⟨(om_b1de7dbe kc_0), (om_daf17c64 kc_0)⟩ (Nat.lt_add_one _) hG hP hD hS hl
set_option maxHeartbeats 4000000 in
set_option maxRecDepth 100000 in
theorem tX4_weighAll (l : Launch) (dC : Nat → ClassId) (dI : Nat → Nat → Nat) (sz : Nat) (oL : Nat) (rL_values : Nat) (fL_values : Nat → Int32) (kL_values : ClassId) (rL_supposed : Nat) (oC : Nat) (iC_nodes : Int32) (iC_words : Int32) (iC_chances : Int32) (iC_unsures : Int32) (iC_slips : Int32) (iC_throneNode : Int32) (iC_saidWorth : Int32) (iC_unit : Int32) (rC_kind : Nat) (fC_kind : Nat → Int32) (kC_kind : ClassId) (rC_parts : Nat) (fC_parts : Nat → Int32) (kC_parts : ClassId) (rC_partNodes : Nat) (fC_partNodes : Nat → Int32) (kC_partNodes : ClassId) (rC_weights : Nat) (fC_weights : Nat → Int32) (kC_weights : ClassId) (rC_weightSums : Nat) (fC_weightSums : Nat → Int32) (kC_weightSums : ClassId) (rC_toldWorths : Nat) (rC_steps : Nat) (rC_below : Nat) (rC_above : Nat) (rC_unsureWords : Nat) (rC_unsureWorths : Nat) (rW : Nat) (fW : Nat → Int32) (kW : ClassId) (b_iC_nodes : 0 ≤ iC_nodes.toInt ∧ iC_nodes.toInt ≤ 18) (b_iC_unsures : 0 ≤ iC_unsures.toInt ∧ iC_unsures.toInt ≤ 4) (b_iC_throneNode : (-1) ≤ iC_throneNode.toInt ∧ iC_throneNode.toInt ≤ 17) (a_fC_parts : ∀ j : Nat, j < 18 → 0 ≤ (fC_parts j).toInt ∧ (fC_parts j).toInt ≤ 4) (a_fC_partNodes : ∀ j : Nat, j < 72 → 0 ≤ (fC_partNodes j).toInt ∧ (fC_partNodes j).toInt ≤ 17)  : Met l yX4_weighAll (Cond.code yX4_weighAll cX4_weighAll 4 (some .int) :: wG) ({ frames := 2, cells := 0, slots := 0, locals := 48 }) (va_Pc [.ref oL, .ref oC, .ref rW] (Pw dC dI sz [(oc4 oL rL_values rL_supposed), (arI rL_values kL_values 18 fL_values), (oc1 oC iC_nodes iC_words iC_chances iC_unsures iC_slips iC_throneNode iC_saidWorth iC_unit rC_kind rC_parts rC_partNodes rC_weights rC_weightSums rC_toldWorths rC_steps rC_below rC_above rC_unsureWords rC_unsureWorths), (arI rC_kind kC_kind 18 fC_kind), (arI rC_parts kC_parts 18 fC_parts), (arI rC_partNodes kC_partNodes 72 fC_partNodes), (arI rC_weights kC_weights 72 fC_weights), (arI rC_weightSums kC_weightSums 18 fC_weightSums), (arI rW kW 18 fW)] [(kL_values, .int), (kC_kind, .int), (kC_parts, .int), (kC_partNodes, .int), (kC_weights, .int), (kC_weightSums, .int), (kW, .int)])) (va_Qi (fun (r : Int32) (u : Nat) => (True ∧ True) ∧ r = Int32.ofNat u) (fun (u : Nat) (t : State) => ∃ (nfL_values : Nat → Int32), (PX4_weighAll fL_values iC_nodes iC_throneNode iC_unit fC_kind fC_parts fC_partNodes fC_weights fC_weightSums fW = (Int32.ofNat u, nfL_values)) ∧ Bw dC dI (va_A [(oc4 oL rL_values rL_supposed), (arI rL_values kL_values 18 fL_values), (oc1 oC iC_nodes iC_words iC_chances iC_unsures iC_slips iC_throneNode iC_saidWorth iC_unit rC_kind rC_parts rC_partNodes rC_weights rC_weightSums rC_toldWorths rC_steps rC_below rC_above rC_unsureWords rC_unsureWorths), (arI rC_kind kC_kind 18 fC_kind), (arI rC_parts kC_parts 18 fC_parts), (arI rC_partNodes kC_partNodes 72 fC_partNodes), (arI rC_weights kC_weights 72 fC_weights), (arI rC_weightSums kC_weightSums 18 fC_weightSums), (arI rW kW 18 fW)] sz) [(oc4 oL rL_values rL_supposed), (arI rL_values kL_values 18 nfL_values), (oc1 oC iC_nodes iC_words iC_chances iC_unsures iC_slips iC_throneNode iC_saidWorth iC_unit rC_kind rC_parts rC_partNodes rC_weights rC_weightSums rC_toldWorths rC_steps rC_below rC_above rC_unsureWords rC_unsureWorths), (arI rC_kind kC_kind 18 fC_kind), (arI rC_parts kC_parts 18 fC_parts), (arI rC_partNodes kC_partNodes 72 fC_partNodes), (arI rC_weights kC_weights 72 fC_weights), (arI rC_weightSums kC_weightSums 18 fC_weightSums), (arI rW kW 18 fW)] [(kL_values, .int), (kC_kind, .int), (kC_parts, .int), (kC_partNodes, .int), (kC_weights, .int), (kC_weightSums, .int), (kW, .int)] t) (va_A [(oc4 oL rL_values rL_supposed), (arI rL_values kL_values 18 fL_values), (oc1 oC iC_nodes iC_words iC_chances iC_unsures iC_slips iC_throneNode iC_saidWorth iC_unit rC_kind rC_parts rC_partNodes rC_weights rC_weightSums rC_toldWorths rC_steps rC_below rC_above rC_unsureWords rC_unsureWorths), (arI rC_kind kC_kind 18 fC_kind), (arI rC_parts kC_parts 18 fC_parts), (arI rC_partNodes kC_partNodes 72 fC_partNodes), (arI rC_weights kC_weights 72 fC_weights), (arI rC_weightSums kC_weightSums 18 fC_weightSums), (arI rW kW 18 fW)] sz)) 0 0 (va_A [(oc4 oL rL_values rL_supposed), (arI rL_values kL_values 18 fL_values), (oc1 oC iC_nodes iC_words iC_chances iC_unsures iC_slips iC_throneNode iC_saidWorth iC_unit rC_kind rC_parts rC_partNodes rC_weights rC_weightSums rC_toldWorths rC_steps rC_below rC_above rC_unsureWords rC_unsureWorths), (arI rC_kind kC_kind 18 fC_kind), (arI rC_parts kC_parts 18 fC_parts), (arI rC_partNodes kC_partNodes 72 fC_partNodes), (arI rC_weights kC_weights 72 fC_weights), (arI rC_weightSums kC_weightSums 18 fC_weightSums), (arI rW kW 18 fW)] sz) := by
  refine Met.ofW (cc := cX4_weighAll) (maxL := 4) (ret := (some .int)) pnX4 rfl ?_
  intro p e s m args below meth c s₁ B hml hv
  obtain ⟨rfl, hsz, hP, hK, hD0, hE⟩ := hv
  have hx := B.exec
  have hb := B.bytes
  have hr := B.returns
  have hts : ∀ w ∈ wG, w.before ([.ref oL, .ref oC, .ref rW] : List Value).toArray s = true := fun w h => atoms_spec (ws := Cond.code yX4_weighAll cX4_weighAll 4 (some .int) :: wG) B.pre w (List.mem_cons_of_mem _ h)
  have hown : s.vm.findClass RX4 = some m.cls := own_of B.named rfl
  have hlocks := B.notSynchronized
  subst hsz
  have hD := hD0.self (sz := s.heap.size)
  generalize hAe : va_A [(oc4 oL rL_values rL_supposed), (arI rL_values kL_values 18 fL_values), (oc1 oC iC_nodes iC_words iC_chances iC_unsures iC_slips iC_throneNode iC_saidWorth iC_unit rC_kind rC_parts rC_partNodes rC_weights rC_weightSums rC_toldWorths rC_steps rC_below rC_above rC_unsureWords rC_unsureWorths), (arI rC_kind kC_kind 18 fC_kind), (arI rC_parts kC_parts 18 fC_parts), (arI rC_partNodes kC_partNodes 72 fC_partNodes), (arI rC_weights kC_weights 72 fC_weights), (arI rC_weightSums kC_weightSums 18 fC_weightSums), (arI rW kW 18 fW)] s.heap.size = A at hD hE ⊢
  have hA : ∀ q : Nat, s.heap.size ≤ q → A q := fun q h => by rw [← hAe]; exact Or.inr h
  have hS : va_S A s.heap s.heap [] := va_S.rf
  have hl := lv_entry ([.ref oL, .ref oC, .ref rW]) (n := 4) (Nat.le_of_ble_eq_true rfl)
  rw [lg_entry_eq]
  generalize (lg_sl ([.ref oL, .ref oC, .ref rW]) ++ List.replicate (4 - (lg_sl ([.ref oL, .ref oC, .ref rW])).length) Slot.unset).toArray = ls at hl ⊢
  have hl : lv_has ls 4 [(0, .ref oL), (1, .ref oC), (2, .ref rW)] := hl
  have hG := PX4_weighAll_eq fL_values iC_nodes iC_throneNode iC_unit fC_kind fC_parts fC_partNodes fC_weights fC_weightSums fW
  refine lv_iconst (v := 0) hx hb dX4_weighAll_0 (by decide) ?_
  refine lv_istore_n (lv' := [(3, .int 0), (0, .ref oL), (1, .ref oC), (2, .ref rW)]) hx hb dX4_weighAll_1 rfl hl (by decide) rfl (fun ls hl => ?_)
  have hl := lv_sub hl (l' := [(3, .int 0), (0, .ref oL), (1, .ref oC), (2, .ref rW)]) [0, 1, 2, 3] rfl
  have key_n_852 : ∀ (n_852 : Nat) (z_850 : Int32) (f_851 : Nat → Int32) (H : Heap) (locs : List Loc) (ls : Array Slot), (0 ≤ z_850.toInt ∧ z_850.toInt ≤ 2147483647) → (2147483647 - z_850.toInt).toNat < n_852 → (PX4_weighAll fL_values iC_nodes iC_throneNode iC_unit fC_kind fC_parts fC_partNodes fC_weights fC_weightSums fW = HX4_weighAll_0 iC_nodes iC_throneNode iC_unit fC_kind fC_parts fC_partNodes fC_weights fC_weightSums fW n_852 z_850 f_851) → va_P (dC, dI) vwCl [(oc4 oL rL_values rL_supposed), (arI rL_values kL_values 18 f_851), (oc1 oC iC_nodes iC_words iC_chances iC_unsures iC_slips iC_throneNode iC_saidWorth iC_unit rC_kind rC_parts rC_partNodes rC_weights rC_weightSums rC_toldWorths rC_steps rC_below rC_above rC_unsureWords rC_unsureWorths), (arI rC_kind kC_kind 18 fC_kind), (arI rC_parts kC_parts 18 fC_parts), (arI rC_partNodes kC_partNodes 72 fC_partNodes), (arI rC_weights kC_weights 72 fC_weights), (arI rC_weightSums kC_weightSums 18 fC_weightSums), (arI rW kW 18 fW)] H → va_D A [(oc4 oL rL_values rL_supposed), (arI rL_values kL_values 18 f_851), (oc1 oC iC_nodes iC_words iC_chances iC_unsures iC_slips iC_throneNode iC_saidWorth iC_unit rC_kind rC_parts rC_partNodes rC_weights rC_weightSums rC_toldWorths rC_steps rC_below rC_above rC_unsureWords rC_unsureWorths), (arI rC_kind kC_kind 18 fC_kind), (arI rC_parts kC_parts 18 fC_parts), (arI rC_partNodes kC_partNodes 72 fC_partNodes), (arI rC_weights kC_weights 72 fC_weights), (arI rC_weightSums kC_weightSums 18 fC_weightSums), (arI rW kW 18 fW)] → va_S A s.heap H locs → lv_has ls 4 [(3, .int z_850), (0, .ref oL), (1, .ref oC), (2, .ref rW)] → W p l e (headSpec (Cond.code yX4_weighAll cX4_weighAll 4 (some .int) :: wG) ({ frames := 2, cells := 0, slots := 0, locals := 48 })).room s m ([.ref oL, .ref oC, .ref rW] : List Value).toArray below meth c H locs 0 0 (MQ below (va_Qi (fun (r : Int32) (u : Nat) => (True ∧ True) ∧ r = Int32.ofNat u) (fun (u : Nat) (t : State) => ∃ (nfL_values : Nat → Int32), (PX4_weighAll fL_values iC_nodes iC_throneNode iC_unit fC_kind fC_parts fC_partNodes fC_weights fC_weightSums fW = (Int32.ofNat u, nfL_values)) ∧ Bw dC dI A [(oc4 oL rL_values rL_supposed), (arI rL_values kL_values 18 nfL_values), (oc1 oC iC_nodes iC_words iC_chances iC_unsures iC_slips iC_throneNode iC_saidWorth iC_unit rC_kind rC_parts rC_partNodes rC_weights rC_weightSums rC_toldWorths rC_steps rC_below rC_above rC_unsureWords rC_unsureWorths), (arI rC_kind kC_kind 18 fC_kind), (arI rC_parts kC_parts 18 fC_parts), (arI rC_partNodes kC_partNodes 72 fC_partNodes), (arI rC_weights kC_weights 72 fC_weights), (arI rC_weightSums kC_weightSums 18 fC_weightSums), (arI rW kW 18 fW)] [(kL_values, .int), (kC_kind, .int), (kC_parts, .int), (kC_partNodes, .int), (kC_weights, .int), (kC_weightSums, .int), (kW, .int)] t) A) ([.ref oL, .ref oC, .ref rW] : List Value).toArray s 0 0 A) (F0 m 2 ls []) := by
    intro n_852
    induction n_852 with
    | zero => intro z_850 f_851 H locs ls hi0_n_852 hm; exact absurd hm (Nat.not_lt_zero _)
    | succ n_852 ih_n_852 =>
      intro z_850 f_851 H locs ls hi0_n_852 hm_n_852 hG hP hD hS hl
      have hG := hG.trans (HX4_weighAll_0_eq _ _ _ _ _ _ _ _ _ _ _ _)
      have rg_z_850 := fb_rng z_850
      refine lv_iload_n hx hb dX4_weighAll_2 rfl (lv_at hl 0 rfl) ?_
      refine lv_aload_n hx hb dX4_weighAll_3 rfl (lv_at hl 2 rfl) ?_
      refine va_get (D := (dC, dI)) (ci := 1) (v := .int iC_nodes) (C := RX1) (T := TX1) (N := 19) hx hb hts inX1 hown hK hP 2 rfl rfl 0 (by decide) (hts _ wd_616) (fun _ h9 => h9) rfl dX4_weighAll_4 ?_
      have rg_iC_nodes := fb_rng iC_nodes
      refine lv_icmp_ge (tgt := 48) hx hb dX4_weighAll_7 (by decide) (fun c_853 => ?_) (fun c_853 => ?_)
      · skip
        have hG := hG.trans (if_pos c_853)
        have gc_853 := ti_le c_853 rfl rfl
        refine lv_aload_n hx hb dX4_weighAll_48 rfl (lv_at hl 1 rfl) ?_
        refine lv_aload_n hx hb dX4_weighAll_49 rfl (lv_at hl 2 rfl) ?_
        have hMs := ml_of hD [true, true, true, false, false, false, false, false, false] (wc := [(oc4 oL rL_values rL_supposed), (arI rL_values kL_values 18 f_851), (oc1 oC iC_nodes iC_words iC_chances iC_unsures iC_slips iC_throneNode iC_saidWorth iC_unit rC_kind rC_parts rC_partNodes rC_weights rC_weightSums rC_toldWorths rC_steps rC_below rC_above rC_unsureWords rC_unsureWorths)]) rfl
        have hFc := va_freeM hD hS hA _ hMs
        refine va_calli (va_runV (As := [.ref oC]) (rest := []) ⟨hx, hb, hml, hown, hts⟩ (tX4_throneValue l dC dI _ oL rL_values f_851 kL_values rL_supposed oC iC_nodes iC_words iC_chances iC_unsures iC_slips iC_throneNode iC_saidWorth iC_unit rC_kind rC_parts rC_partNodes rC_weights rC_weightSums rC_toldWorths rC_steps rC_below rC_above rC_unsureWords rC_unsureWorths b_iC_nodes b_iC_unsures b_iC_throneNode) (cwV 1 hts (wd_V wd_629 wd_630 wd_631 wd_37 (wd_c wd_632)) rfl rfl rfl dv_yX4_throneValue_1 ⟨Nat.le_of_ble_eq_true rfl, Nat.le_of_ble_eq_true rfl⟩) ⟨Pw.fb, recvX4 hK hP (q0 := 0) rfl, fun U hU hW => Pw.to (hP.ms _ hMs) (hD.ms _ hMs) (hK.ms [true, false, false, false, false, false, false] rfl) hE hS hFc hU hW⟩ rfl rfl hl.1 rfl (lv_room (Nat.le_of_ble_eq_true rfl)) dX4_weighAll_50 ⟨Nat.le_of_ble_eq_true rfl, Nat.le_of_ble_eq_true rfl⟩) hS (fun q _ h => hFc q h) hFc (fun r u t H locs ht hvm hw hB hz1 hk1 hS => ?_)
        have hru9 := hw.2
        have hw := hw.1
        obtain ⟨hP, hD⟩ := Bw.goN (ws' := [(oc4 oL rL_values rL_supposed), (arI rL_values kL_values 18 f_851), (oc1 oC iC_nodes iC_words iC_chances iC_unsures iC_slips iC_throneNode iC_saidWorth iC_unit rC_kind rC_parts rC_partNodes rC_weights rC_weightSums rC_toldWorths rC_steps rC_below rC_above rC_unsureWords rC_unsureWorths), (arI rC_kind kC_kind 18 fC_kind), (arI rC_parts kC_parts 18 fC_parts), (arI rC_partNodes kC_partNodes 72 fC_partNodes), (arI rC_weights kC_weights 72 fC_weights), (arI rC_weightSums kC_weightSums 18 fC_weightSums), (arI rW kW 18 fW)]) hB rfl ht hP hD _ hMs hk1 hFc rfl
        clear hz1 hk1 hvm ht hB hMs
        obtain ⟨x_854, rfl⟩ : ∃ z, z = r := ⟨_, rfl⟩
        have hG := hG.trans (lt_eq hru9.symm)
        have rg_x_854 := fb_rng x_854
        exact wq_i hx hb hr (cI x_854) ⟨⟨trivial, trivial⟩, (cI_of x_854)⟩ (fun t ht hW => ⟨f_851, (cI_tup hG), Bw.to hP hD hK ht hW⟩) hS dX4_weighAll_53 hlocks
      · skip
        have hG := hG.trans (if_neg c_853)
        have gc_853 := ti_nle c_853 rfl rfl
        refine lv_aload_n hx hb dX4_weighAll_10 rfl (lv_at hl 1 rfl) ?_
        refine va_get (D := (dC, dI)) (ci := 4) (v := .ref rL_values) (C := RX4) (T := TX4) (N := 2) hx hb hts inX4 hown hK hP 0 rfl rfl 0 (by decide) (hts _ wd_146) (fun _ h9 => h9) rfl dX4_weighAll_11 ?_
        refine lv_iload_n hx hb dX4_weighAll_14 rfl (lv_at hl 0 rfl) ?_
        refine lv_aload_n hx hb dX4_weighAll_15 rfl (lv_at hl 2 rfl) ?_
        refine va_get (D := (dC, dI)) (ci := 1) (v := .ref rC_kind) (C := RX1) (T := TX1) (N := 19) hx hb hts inX1 hown hK hP 2 rfl rfl 8 (by decide) (hts _ wd_617) (fun _ h9 => h9) rfl dX4_weighAll_16 ?_
        refine lv_iload_n hx hb dX4_weighAll_19 rfl (lv_at hl 0 rfl) ?_
        refine va_iald hx hb hK hP 3 1 rfl rfl (ti_in rfl hi0_n_852.1 (om_97cd4a7c b_iC_nodes.2 gc_853)) dX4_weighAll_20 ?_
        refine lv_topi (fun x_855 ex_855 => ?_)
        have hG := hG.trans (lt_eq ex_855)
        have rg_x_855 := fb_rng x_855
        have kx_855 : (fC_kind z_850.toNatClampNeg).toInt = x_855.toInt := by rw [ex_855]
        refine lv_if_ne (tgt := 35) hx hb dX4_weighAll_21 (by decide) (fun c_856 => ?_) (fun c_856 => ?_)
        · skip
          have hG := hG.trans (if_neg c_856)
          have gc_856 := ti_ne c_856 rfl kc_0
          refine lv_aload_n hx hb dX4_weighAll_35 rfl (lv_at hl 1 rfl) ?_
          refine lv_aload_n hx hb dX4_weighAll_36 rfl (lv_at hl 2 rfl) ?_
          refine lv_iload_n hx hb dX4_weighAll_37 rfl (lv_at hl 0 rfl) ?_
          have hMs := ml_of hD [true, true, true, true, true, true, true, true, false] (wc := [(oc4 oL rL_values rL_supposed), (arI rL_values kL_values 18 f_851), (oc1 oC iC_nodes iC_words iC_chances iC_unsures iC_slips iC_throneNode iC_saidWorth iC_unit rC_kind rC_parts rC_partNodes rC_weights rC_weightSums rC_toldWorths rC_steps rC_below rC_above rC_unsureWords rC_unsureWorths), (arI rC_kind kC_kind 18 fC_kind), (arI rC_parts kC_parts 18 fC_parts), (arI rC_partNodes kC_partNodes 72 fC_partNodes), (arI rC_weights kC_weights 72 fC_weights), (arI rC_weightSums kC_weightSums 18 fC_weightSums)]) rfl
          have hFc := va_freeM hD hS hA _ hMs
          refine va_calli (va_runV (As := [.ref oC, .int z_850]) (rest := [.int z_850, .ref rL_values]) ⟨hx, hb, hml, hown, hts⟩ (tX4_joined l dC dI _ oL rL_values f_851 kL_values rL_supposed oC iC_nodes iC_words iC_chances iC_unsures iC_slips iC_throneNode iC_saidWorth iC_unit rC_kind fC_kind kC_kind rC_parts fC_parts kC_parts rC_partNodes fC_partNodes kC_partNodes rC_weights fC_weights kC_weights rC_weightSums fC_weightSums kC_weightSums rC_toldWorths rC_steps rC_below rC_above rC_unsureWords rC_unsureWorths z_850 b_iC_nodes b_iC_unsures b_iC_throneNode a_fC_parts a_fC_partNodes ⟨hi0_n_852.1, (om_525c5d3e b_iC_nodes.2 gc_853)⟩) (cwV 2 hts (wd_V wd_619 wd_620 wd_621 wd_37 (wd_c wd_622)) rfl rfl rfl dv_yX4_joined_2 ⟨Nat.le_of_ble_eq_true rfl, Nat.le_of_ble_eq_true rfl⟩) ⟨Pw.fb, recvX4 hK hP (q0 := 0) rfl, fun U hU hW => Pw.to (hP.ms _ hMs) (hD.ms _ hMs) (hK.ms [true, true, true, true, true, true, false] rfl) hE hS hFc hU hW⟩ rfl rfl hl.1 rfl (lv_room (Nat.le_of_ble_eq_true rfl)) dX4_weighAll_38 ⟨Nat.le_of_ble_eq_true rfl, Nat.le_of_ble_eq_true rfl⟩) hS (fun q _ h => hFc q h) hFc (fun r u t H locs ht hvm hw hB hz1 hk1 hS => ?_)
          have hru9 := hw.2
          have hw := hw.1
          obtain ⟨hP, hD⟩ := Bw.goN (ws' := [(oc4 oL rL_values rL_supposed), (arI rL_values kL_values 18 f_851), (oc1 oC iC_nodes iC_words iC_chances iC_unsures iC_slips iC_throneNode iC_saidWorth iC_unit rC_kind rC_parts rC_partNodes rC_weights rC_weightSums rC_toldWorths rC_steps rC_below rC_above rC_unsureWords rC_unsureWorths), (arI rC_kind kC_kind 18 fC_kind), (arI rC_parts kC_parts 18 fC_parts), (arI rC_partNodes kC_partNodes 72 fC_partNodes), (arI rC_weights kC_weights 72 fC_weights), (arI rC_weightSums kC_weightSums 18 fC_weightSums), (arI rW kW 18 fW)]) hB rfl ht hP hD _ hMs hk1 hFc rfl
          clear hz1 hk1 hvm ht hB hMs
          obtain ⟨x_857, rfl⟩ : ∃ z, z = r := ⟨_, rfl⟩
          have hG := hG.trans (lt_eq hru9.symm)
          have rg_x_857 := fb_rng x_857
          refine va_iast hx hb hK hP hD hS 1 0 rfl rfl (ti_in rfl hi0_n_852.1 (om_97cd4a7c b_iC_nodes.2 gc_853)) dX4_weighAll_41 (fun H locs hP hD hS => ?_)
          obtain ⟨f_859, ef_859⟩ : ∃ g : Nat → Int32, g = upd f_851 z_850.toNatClampNeg x_857 := ⟨_, rfl⟩
          rw [← ef_859] at hP hD
          have hG := hG.trans (lt_eq ef_859)
          obtain ⟨hP, hD⟩ := wl2 (ws' := [(oc4 oL rL_values rL_supposed), (arI rL_values kL_values 18 f_859), (oc1 oC iC_nodes iC_words iC_chances iC_unsures iC_slips iC_throneNode iC_saidWorth iC_unit rC_kind rC_parts rC_partNodes rC_weights rC_weightSums rC_toldWorths rC_steps rC_below rC_above rC_unsureWords rC_unsureWorths), (arI rC_kind kC_kind 18 fC_kind), (arI rC_parts kC_parts 18 fC_parts), (arI rC_partNodes kC_partNodes 72 fC_partNodes), (arI rC_weights kC_weights 72 fC_weights), (arI rC_weightSums kC_weightSums 18 fC_weightSums), (arI rW kW 18 fW)]) hP hD rfl
          obtain ⟨x_860, ex_860⟩ : ∃ z : Int32, z = z_850 + Int32.ofInt 1 := ⟨_, rfl⟩
          have hG := hG.trans (lt_eq ex_860)
          have vx_860 : x_860.toInt = z_850.toInt + 1 := ti_add (y := 1) ex_860 rfl kc_1 (om_4e4fce7e hi0_n_852.1) (om_a32d6481 b_iC_nodes.2 gc_853)
          refine lv_iinc (v := x_860) (lv' := [(3, .int x_860), (0, .ref oL), (1, .ref oC), (2, .ref rW)]) hx hb dX4_weighAll_42 hl (k := 0) rfl ex_860.symm (by decide) rfl (fun ls hl => ?_)
          refine lv_goto (tgt := 2) hx hb dX4_weighAll_45 (by decide) ?_
          exact ih_n_852 x_860 f_859 _ _ _  ⟨(om_83b90de5 hi0_n_852.1 vx_860), (om_ed8867da b_iC_nodes.2 gc_853 vx_860)⟩ (ms_lt hm_n_852 (om_b9393183 vx_860) (om_1d9fa7fb b_iC_nodes.2 gc_853)) hG hP hD hS (lv_sub hl [0, 1, 2, 3] rfl)
        · skip
          have hG := hG.trans (if_pos c_856)
          have gc_856 := ti_eq c_856 rfl kc_0
          refine lv_aload_n hx hb dX4_weighAll_24 rfl (lv_at hl 3 rfl) ?_
          refine lv_iload_n hx hb dX4_weighAll_25 rfl (lv_at hl 0 rfl) ?_
          refine va_iald hx hb hK hP 8 6 rfl rfl (ti_in rfl hi0_n_852.1 (om_97cd4a7c b_iC_nodes.2 gc_853)) dX4_weighAll_26 ?_
          refine lv_topi (fun x_861 ex_861 => ?_)
          have hG := hG.trans (lt_eq ex_861)
          have rg_x_861 := fb_rng x_861
          have kx_861 : (fW z_850.toNatClampNeg).toInt = x_861.toInt := by rw [ex_861]
          refine lv_aload_n hx hb dX4_weighAll_27 rfl (lv_at hl 2 rfl) ?_
          refine va_get (D := (dC, dI)) (ci := 1) (v := .int iC_unit) (C := RX1) (T := TX1) (N := 19) hx hb hts inX1 hown hK hP 2 rfl rfl 7 (by decide) (hts _ wd_618) (fun _ h9 => h9) rfl dX4_weighAll_28 ?_
          have rg_iC_unit := fb_rng iC_unit
          refine lv_imul hx hb dX4_weighAll_31 ?_
          refine lv_topi (fun x_862 ex_862 => ?_)
          have hG := hG.trans (lt_eq ex_862)
          have rg_x_862 := fb_rng x_862
          refine lv_goto (tgt := 41) hx hb dX4_weighAll_32 (by decide) ?_
          refine va_iast hx hb hK hP hD hS 1 0 rfl rfl (ti_in rfl hi0_n_852.1 (om_97cd4a7c b_iC_nodes.2 gc_853)) dX4_weighAll_41 (fun H locs hP hD hS => ?_)
          obtain ⟨f_864, ef_864⟩ : ∃ g : Nat → Int32, g = upd f_851 z_850.toNatClampNeg x_862 := ⟨_, rfl⟩
          rw [← ef_864] at hP hD
          have hG := hG.trans (lt_eq ef_864)
          obtain ⟨hP, hD⟩ := wl2 (ws' := [(oc4 oL rL_values rL_supposed), (arI rL_values kL_values 18 f_864), (oc1 oC iC_nodes iC_words iC_chances iC_unsures iC_slips iC_throneNode iC_saidWorth iC_unit rC_kind rC_parts rC_partNodes rC_weights rC_weightSums rC_toldWorths rC_steps rC_below rC_above rC_unsureWords rC_unsureWorths), (arI rC_kind kC_kind 18 fC_kind), (arI rC_parts kC_parts 18 fC_parts), (arI rC_partNodes kC_partNodes 72 fC_partNodes), (arI rC_weights kC_weights 72 fC_weights), (arI rC_weightSums kC_weightSums 18 fC_weightSums), (arI rW kW 18 fW)]) hP hD rfl
          obtain ⟨x_865, ex_865⟩ : ∃ z : Int32, z = z_850 + Int32.ofInt 1 := ⟨_, rfl⟩
          have hG := hG.trans (lt_eq ex_865)
          have vx_865 : x_865.toInt = z_850.toInt + 1 := ti_add (y := 1) ex_865 rfl kc_1 (om_4e4fce7e hi0_n_852.1) (om_a32d6481 b_iC_nodes.2 gc_853)
          refine lv_iinc (v := x_865) (lv' := [(3, .int x_865), (0, .ref oL), (1, .ref oC), (2, .ref rW)]) hx hb dX4_weighAll_42 hl (k := 0) rfl ex_865.symm (by decide) rfl (fun ls hl => ?_)
          refine lv_goto (tgt := 2) hx hb dX4_weighAll_45 (by decide) ?_
          exact ih_n_852 x_865 f_864 _ _ _  ⟨(om_83b90de5 hi0_n_852.1 vx_865), (om_ed8867da b_iC_nodes.2 gc_853 vx_865)⟩ (ms_lt hm_n_852 (om_b9393183 vx_865) (om_1d9fa7fb b_iC_nodes.2 gc_853)) hG hP hD hS (lv_sub hl [0, 1, 2, 3] rfl)
  exact key_n_852 (((2147483647 - (0 : Int32).toInt).toNat) + 1) 0 fL_values _ _ _  ⟨(om_b1de7dbe kc_0), (om_daf17c64 kc_0)⟩ (Nat.lt_add_one _) hG hP hD hS hl
set_option maxHeartbeats 4000000 in
set_option maxRecDepth 100000 in
theorem tX4_throneByWord (l : Launch) (dC : Nat → ClassId) (dI : Nat → Nat → Nat) (sz : Nat) (oL : Nat) (rL_values : Nat) (fL_values : Nat → Int32) (kL_values : ClassId) (rL_supposed : Nat) (fL_supposed : Nat → Int32) (kL_supposed : ClassId) (oC : Nat) (iC_nodes : Int32) (iC_words : Int32) (iC_chances : Int32) (iC_unsures : Int32) (iC_slips : Int32) (iC_throneNode : Int32) (iC_saidWorth : Int32) (iC_unit : Int32) (rC_kind : Nat) (fC_kind : Nat → Int32) (kC_kind : ClassId) (rC_parts : Nat) (fC_parts : Nat → Int32) (kC_parts : ClassId) (rC_partNodes : Nat) (fC_partNodes : Nat → Int32) (kC_partNodes : ClassId) (rC_weights : Nat) (fC_weights : Nat → Int32) (kC_weights : ClassId) (rC_weightSums : Nat) (fC_weightSums : Nat → Int32) (kC_weightSums : ClassId) (rC_toldWorths : Nat) (rC_steps : Nat) (rC_below : Nat) (rC_above : Nat) (rC_unsureWords : Nat) (rC_unsureWorths : Nat) (oS : Nat) (rS_worths : Nat) (fS_worths : Nat → Int32) (kS_worths : ClassId) (rS_order : Nat) (rS_left : Nat) (p0 : Int32) (p1 : Int32) (b_iC_nodes : 0 ≤ iC_nodes.toInt ∧ iC_nodes.toInt ≤ 18) (b_iC_unsures : 0 ≤ iC_unsures.toInt ∧ iC_unsures.toInt ≤ 4) (b_iC_throneNode : (-1) ≤ iC_throneNode.toInt ∧ iC_throneNode.toInt ≤ 17) (a_fC_parts : ∀ j : Nat, j < 18 → 0 ≤ (fC_parts j).toInt ∧ (fC_parts j).toInt ≤ 4) (a_fC_partNodes : ∀ j : Nat, j < 72 → 0 ≤ (fC_partNodes j).toInt ∧ (fC_partNodes j).toInt ≤ 17)  : Met l yX4_throneByWord (Cond.code yX4_throneByWord cX4_throneByWord 5 (some .int) :: wG) ({ frames := 3, cells := 0, slots := 0, locals := 71 }) (va_Pc [.ref oL, .ref oC, .ref oS, .int p0, .int p1] (Pw dC dI sz [(oc4 oL rL_values rL_supposed), (arI rL_values kL_values 18 fL_values), (arI rL_supposed kL_supposed 18 fL_supposed), (oc1 oC iC_nodes iC_words iC_chances iC_unsures iC_slips iC_throneNode iC_saidWorth iC_unit rC_kind rC_parts rC_partNodes rC_weights rC_weightSums rC_toldWorths rC_steps rC_below rC_above rC_unsureWords rC_unsureWorths), (arI rC_kind kC_kind 18 fC_kind), (arI rC_parts kC_parts 18 fC_parts), (arI rC_partNodes kC_partNodes 72 fC_partNodes), (arI rC_weights kC_weights 72 fC_weights), (arI rC_weightSums kC_weightSums 18 fC_weightSums), (oc5 oS rS_worths rS_order rS_left), (arI rS_worths kS_worths 18 fS_worths)] [(kL_values, .int), (kL_supposed, .int), (kC_kind, .int), (kC_parts, .int), (kC_partNodes, .int), (kC_weights, .int), (kC_weightSums, .int), (kS_worths, .int)])) (va_Qi (fun (r : Int32) (u : Nat) => (True ∧ True) ∧ r = Int32.ofNat u) (fun (u : Nat) (t : State) => ∃ (nfL_values : Nat → Int32) (nfL_supposed : Nat → Int32), (PX4_throneByWord fL_values fL_supposed iC_nodes iC_throneNode iC_unit fC_kind fC_parts fC_partNodes fC_weights fC_weightSums fS_worths p0 p1 = (Int32.ofNat u, nfL_values, nfL_supposed)) ∧ Bw dC dI (va_A [(oc4 oL rL_values rL_supposed), (arI rL_values kL_values 18 fL_values), (arI rL_supposed kL_supposed 18 fL_supposed), (oc1 oC iC_nodes iC_words iC_chances iC_unsures iC_slips iC_throneNode iC_saidWorth iC_unit rC_kind rC_parts rC_partNodes rC_weights rC_weightSums rC_toldWorths rC_steps rC_below rC_above rC_unsureWords rC_unsureWorths), (arI rC_kind kC_kind 18 fC_kind), (arI rC_parts kC_parts 18 fC_parts), (arI rC_partNodes kC_partNodes 72 fC_partNodes), (arI rC_weights kC_weights 72 fC_weights), (arI rC_weightSums kC_weightSums 18 fC_weightSums), (oc5 oS rS_worths rS_order rS_left), (arI rS_worths kS_worths 18 fS_worths)] sz) [(oc4 oL rL_values rL_supposed), (arI rL_values kL_values 18 nfL_values), (arI rL_supposed kL_supposed 18 nfL_supposed), (oc1 oC iC_nodes iC_words iC_chances iC_unsures iC_slips iC_throneNode iC_saidWorth iC_unit rC_kind rC_parts rC_partNodes rC_weights rC_weightSums rC_toldWorths rC_steps rC_below rC_above rC_unsureWords rC_unsureWorths), (arI rC_kind kC_kind 18 fC_kind), (arI rC_parts kC_parts 18 fC_parts), (arI rC_partNodes kC_partNodes 72 fC_partNodes), (arI rC_weights kC_weights 72 fC_weights), (arI rC_weightSums kC_weightSums 18 fC_weightSums), (oc5 oS rS_worths rS_order rS_left), (arI rS_worths kS_worths 18 fS_worths)] [(kL_values, .int), (kL_supposed, .int), (kC_kind, .int), (kC_parts, .int), (kC_partNodes, .int), (kC_weights, .int), (kC_weightSums, .int), (kS_worths, .int)] t) (va_A [(oc4 oL rL_values rL_supposed), (arI rL_values kL_values 18 fL_values), (arI rL_supposed kL_supposed 18 fL_supposed), (oc1 oC iC_nodes iC_words iC_chances iC_unsures iC_slips iC_throneNode iC_saidWorth iC_unit rC_kind rC_parts rC_partNodes rC_weights rC_weightSums rC_toldWorths rC_steps rC_below rC_above rC_unsureWords rC_unsureWorths), (arI rC_kind kC_kind 18 fC_kind), (arI rC_parts kC_parts 18 fC_parts), (arI rC_partNodes kC_partNodes 72 fC_partNodes), (arI rC_weights kC_weights 72 fC_weights), (arI rC_weightSums kC_weightSums 18 fC_weightSums), (oc5 oS rS_worths rS_order rS_left), (arI rS_worths kS_worths 18 fS_worths)] sz)) 0 0 (va_A [(oc4 oL rL_values rL_supposed), (arI rL_values kL_values 18 fL_values), (arI rL_supposed kL_supposed 18 fL_supposed), (oc1 oC iC_nodes iC_words iC_chances iC_unsures iC_slips iC_throneNode iC_saidWorth iC_unit rC_kind rC_parts rC_partNodes rC_weights rC_weightSums rC_toldWorths rC_steps rC_below rC_above rC_unsureWords rC_unsureWorths), (arI rC_kind kC_kind 18 fC_kind), (arI rC_parts kC_parts 18 fC_parts), (arI rC_partNodes kC_partNodes 72 fC_partNodes), (arI rC_weights kC_weights 72 fC_weights), (arI rC_weightSums kC_weightSums 18 fC_weightSums), (oc5 oS rS_worths rS_order rS_left), (arI rS_worths kS_worths 18 fS_worths)] sz) := by
  refine Met.ofW (cc := cX4_throneByWord) (maxL := 5) (ret := (some .int)) pnX4 rfl ?_
  intro p e s m args below meth c s₁ B hml hv
  obtain ⟨rfl, hsz, hP, hK, hD0, hE⟩ := hv
  have hx := B.exec
  have hb := B.bytes
  have hr := B.returns
  have hts : ∀ w ∈ wG, w.before ([.ref oL, .ref oC, .ref oS, .int p0, .int p1] : List Value).toArray s = true := fun w h => atoms_spec (ws := Cond.code yX4_throneByWord cX4_throneByWord 5 (some .int) :: wG) B.pre w (List.mem_cons_of_mem _ h)
  have hown : s.vm.findClass RX4 = some m.cls := own_of B.named rfl
  have hlocks := B.notSynchronized
  subst hsz
  have hD := hD0.self (sz := s.heap.size)
  generalize hAe : va_A [(oc4 oL rL_values rL_supposed), (arI rL_values kL_values 18 fL_values), (arI rL_supposed kL_supposed 18 fL_supposed), (oc1 oC iC_nodes iC_words iC_chances iC_unsures iC_slips iC_throneNode iC_saidWorth iC_unit rC_kind rC_parts rC_partNodes rC_weights rC_weightSums rC_toldWorths rC_steps rC_below rC_above rC_unsureWords rC_unsureWorths), (arI rC_kind kC_kind 18 fC_kind), (arI rC_parts kC_parts 18 fC_parts), (arI rC_partNodes kC_partNodes 72 fC_partNodes), (arI rC_weights kC_weights 72 fC_weights), (arI rC_weightSums kC_weightSums 18 fC_weightSums), (oc5 oS rS_worths rS_order rS_left), (arI rS_worths kS_worths 18 fS_worths)] s.heap.size = A at hD hE ⊢
  have hA : ∀ q : Nat, s.heap.size ≤ q → A q := fun q h => by rw [← hAe]; exact Or.inr h
  have hS : va_S A s.heap s.heap [] := va_S.rf
  have hl := lv_entry ([.ref oL, .ref oC, .ref oS, .int p0, .int p1]) (n := 5) (Nat.le_of_ble_eq_true rfl)
  rw [lg_entry_eq]
  generalize (lg_sl ([.ref oL, .ref oC, .ref oS, .int p0, .int p1]) ++ List.replicate (5 - (lg_sl ([.ref oL, .ref oC, .ref oS, .int p0, .int p1])).length) Slot.unset).toArray = ls at hl ⊢
  have hl : lv_has ls 5 [(0, .ref oL), (1, .ref oC), (2, .ref oS), (3, .int p0), (4, .int p1)] := hl
  have hG := PX4_throneByWord_eq fL_values fL_supposed iC_nodes iC_throneNode iC_unit fC_kind fC_parts fC_partNodes fC_weights fC_weightSums fS_worths p0 p1
  refine lv_aload_n hx hb dX4_throneByWord_0 rfl (lv_at hl 2 rfl) ?_
  refine va_get (D := (dC, dI)) (ci := 5) (v := .ref rS_worths) (C := RX5) (T := TX5) (N := 3) hx hb hts inX5 hown hK hP 9 rfl rfl 0 (by decide) (hts _ wd_948) (fun _ h9 => h9) rfl dX4_throneByWord_1 ?_
  refine lv_iconst (v := 0) hx hb dX4_throneByWord_4 (by decide) ?_
  refine lv_aload_n hx hb dX4_throneByWord_5 rfl (lv_at hl 0 rfl) ?_
  refine va_get (D := (dC, dI)) (ci := 4) (v := .ref rL_supposed) (C := RX4) (T := TX4) (N := 2) hx hb hts inX4 hown hK hP 0 rfl rfl 1 (by decide) (hts _ wd_147) (fun _ h9 => h9) rfl dX4_throneByWord_6 ?_
  refine lv_iconst (v := 0) hx hb dX4_throneByWord_9 (by decide) ?_
  refine lv_bipush (v := 18) hx hb dX4_throneByWord_10 (by decide) ?_
  refine vz_copyE hx hb (hml.trans hl.1.symm) hown (hts _ wd_1134) (hts _ wd_1016) (hts _ wd_1017) (hts _ wd_1018) hK hP hD hS 10 2 7 1 rfl rfl rfl rfl (k := 18) (by decide) (by decide) (Nat.le_of_ble_eq_true rfl) (Nat.le_of_ble_eq_true (by decide +kernel)) dX4_throneByWord_12 (fun H locs f_875 ef_875 c_f_875 hP hD hS => ?_)
  have hG := hG.trans (lt_eq ef_875)
  obtain ⟨hP, hD⟩ := wl2 (ws' := [(oc4 oL rL_values rL_supposed), (arI rL_values kL_values 18 fL_values), (arI rL_supposed kL_supposed 18 f_875), (oc1 oC iC_nodes iC_words iC_chances iC_unsures iC_slips iC_throneNode iC_saidWorth iC_unit rC_kind rC_parts rC_partNodes rC_weights rC_weightSums rC_toldWorths rC_steps rC_below rC_above rC_unsureWords rC_unsureWorths), (arI rC_kind kC_kind 18 fC_kind), (arI rC_parts kC_parts 18 fC_parts), (arI rC_partNodes kC_partNodes 72 fC_partNodes), (arI rC_weights kC_weights 72 fC_weights), (arI rC_weightSums kC_weightSums 18 fC_weightSums), (oc5 oS rS_worths rS_order rS_left), (arI rS_worths kS_worths 18 fS_worths)]) hP hD rfl
  refine lv_aload_n hx hb dX4_throneByWord_15 rfl (lv_at hl 1 rfl) ?_
  refine lv_iload_n hx hb dX4_throneByWord_16 rfl (lv_at hl 3 rfl) ?_
  have hMs := ml_of hD [false, false, false, true, false, false, false, false, false, false, false] (wc := [(oc1 oC iC_nodes iC_words iC_chances iC_unsures iC_slips iC_throneNode iC_saidWorth iC_unit rC_kind rC_parts rC_partNodes rC_weights rC_weightSums rC_toldWorths rC_steps rC_below rC_above rC_unsureWords rC_unsureWorths)]) rfl
  have hFc := va_freeM hD hS hA _ hMs
  refine va_calli (va_runV (As := [.int p0]) (rest := []) ⟨hx, hb, hml, hown, hts⟩ (tX1_hasNode l dC dI _ oC iC_nodes iC_words iC_chances iC_unsures iC_slips iC_throneNode iC_saidWorth iC_unit rC_kind rC_parts rC_partNodes rC_weights rC_weightSums rC_toldWorths rC_steps rC_below rC_above rC_unsureWords rC_unsureWorths p0 b_iC_nodes b_iC_unsures b_iC_throneNode) (cwV 1 hts (wd_V wd_634 wd_326 wd_327 wd_19 (wd_c wd_328)) rfl rfl rfl dv_yX1_hasNode_1 ⟨Nat.le_of_ble_eq_true rfl, Nat.le_of_ble_eq_true rfl⟩) ⟨Pw.fb, recvX1 hK hP (q0 := 3) rfl, fun U hU hW => Pw.to (hP.ms _ hMs) (hD.ms _ hMs) (hK.ms [false, false, false, false, false, false, false, false] rfl) hE hS hFc hU hW⟩ rfl rfl hl.1 rfl (lv_room (Nat.le_of_ble_eq_true rfl)) dX4_throneByWord_17 ⟨Nat.le_of_ble_eq_true rfl, Nat.le_of_ble_eq_true rfl⟩) hS (fun q _ h => hFc q h) hFc (fun r u t H locs ht hvm hw hB hz1 hk1 hS => ?_)
  have hru9 := hw.2
  have hw := hw.1
  obtain ⟨hP, hD⟩ := Bw.goN (ws' := [(oc4 oL rL_values rL_supposed), (arI rL_values kL_values 18 fL_values), (arI rL_supposed kL_supposed 18 f_875), (oc1 oC iC_nodes iC_words iC_chances iC_unsures iC_slips iC_throneNode iC_saidWorth iC_unit rC_kind rC_parts rC_partNodes rC_weights rC_weightSums rC_toldWorths rC_steps rC_below rC_above rC_unsureWords rC_unsureWorths), (arI rC_kind kC_kind 18 fC_kind), (arI rC_parts kC_parts 18 fC_parts), (arI rC_partNodes kC_partNodes 72 fC_partNodes), (arI rC_weights kC_weights 72 fC_weights), (arI rC_weightSums kC_weightSums 18 fC_weightSums), (oc5 oS rS_worths rS_order rS_left), (arI rS_worths kS_worths 18 fS_worths)]) hB rfl ht hP hD _ hMs hk1 hFc rfl
  clear hz1 hk1 hvm ht hB hMs
  rcases hw.2 with ⟨rfl, hc_876⟩ | ⟨rfl, hc_876⟩
  · skip
    have hG := hG.trans (lt_eq hru9.symm)
    have hG := hG.trans (if_pos rfl)
    refine lv_if_eq (tgt := 31) hx hb dX4_throneByWord_20 (by decide) (fun c => absurd c (by decide)) (fun _ => ?_)
    refine lv_aload_n hx hb dX4_throneByWord_23 rfl (lv_at hl 0 rfl) ?_
    refine va_get (D := (dC, dI)) (ci := 4) (v := .ref rL_supposed) (C := RX4) (T := TX4) (N := 2) hx hb hts inX4 hown hK hP 0 rfl rfl 1 (by decide) (hts _ wd_147) (fun _ h9 => h9) rfl dX4_throneByWord_24 ?_
    refine lv_iload_n hx hb dX4_throneByWord_27 rfl (lv_at hl 3 rfl) ?_
    refine lv_iload hx hb dX4_throneByWord_28 (lv_at hl 4 rfl) ?_
    refine va_iast hx hb hK hP hD hS 2 1 rfl rfl (ti_in rfl hc_876.1 (om_97cd4a7c b_iC_nodes.2 hc_876.2)) dX4_throneByWord_30 (fun H locs hP hD hS => ?_)
    obtain ⟨f_880, ef_880⟩ : ∃ g : Nat → Int32, g = upd f_875 p0.toNatClampNeg p1 := ⟨_, rfl⟩
    rw [← ef_880] at hP hD
    have hG := hG.trans (lt_eq ef_880)
    obtain ⟨hP, hD⟩ := wl2 (ws' := [(oc4 oL rL_values rL_supposed), (arI rL_values kL_values 18 fL_values), (arI rL_supposed kL_supposed 18 f_880), (oc1 oC iC_nodes iC_words iC_chances iC_unsures iC_slips iC_throneNode iC_saidWorth iC_unit rC_kind rC_parts rC_partNodes rC_weights rC_weightSums rC_toldWorths rC_steps rC_below rC_above rC_unsureWords rC_unsureWorths), (arI rC_kind kC_kind 18 fC_kind), (arI rC_parts kC_parts 18 fC_parts), (arI rC_partNodes kC_partNodes 72 fC_partNodes), (arI rC_weights kC_weights 72 fC_weights), (arI rC_weightSums kC_weightSums 18 fC_weightSums), (oc5 oS rS_worths rS_order rS_left), (arI rS_worths kS_worths 18 fS_worths)]) hP hD rfl
    refine lv_aload_n hx hb dX4_throneByWord_31 rfl (lv_at hl 0 rfl) ?_
    refine lv_aload_n hx hb dX4_throneByWord_32 rfl (lv_at hl 1 rfl) ?_
    refine lv_aload_n hx hb dX4_throneByWord_33 rfl (lv_at hl 0 rfl) ?_
    refine va_get (D := (dC, dI)) (ci := 4) (v := .ref rL_supposed) (C := RX4) (T := TX4) (N := 2) hx hb hts inX4 hown hK hP 0 rfl rfl 1 (by decide) (hts _ wd_147) (fun _ h9 => h9) rfl dX4_throneByWord_34 ?_
    have hFc := va_free (wc := [(oc4 oL rL_values rL_supposed), (arI rL_values kL_values 18 fL_values), (oc1 oC iC_nodes iC_words iC_chances iC_unsures iC_slips iC_throneNode iC_saidWorth iC_unit rC_kind rC_parts rC_partNodes rC_weights rC_weightSums rC_toldWorths rC_steps rC_below rC_above rC_unsureWords rC_unsureWorths), (arI rC_kind kC_kind 18 fC_kind), (arI rC_parts kC_parts 18 fC_parts), (arI rC_partNodes kC_partNodes 72 fC_partNodes), (arI rC_weights kC_weights 72 fC_weights), (arI rC_weightSums kC_weightSums 18 fC_weightSums), (arI rL_supposed kL_supposed 18 f_880)]) hD hS hA [0, 1, 3, 4, 5, 6, 7, 8, 2] rfl
    refine va_calli (va_runV (As := [.ref oC, .ref rL_supposed]) (rest := []) ⟨hx, hb, hml, hown, hts⟩ (tX4_weighAll l dC dI _ oL rL_values fL_values kL_values rL_supposed oC iC_nodes iC_words iC_chances iC_unsures iC_slips iC_throneNode iC_saidWorth iC_unit rC_kind fC_kind kC_kind rC_parts fC_parts kC_parts rC_partNodes fC_partNodes kC_partNodes rC_weights fC_weights kC_weights rC_weightSums fC_weightSums kC_weightSums rC_toldWorths rC_steps rC_below rC_above rC_unsureWords rC_unsureWorths rL_supposed f_880 kL_supposed b_iC_nodes b_iC_unsures b_iC_throneNode a_fC_parts a_fC_partNodes) (cwV 2 hts (wd_V wd_949 wd_613 wd_614 wd_37 (wd_c wd_615)) rfl rfl rfl dv_yX4_weighAll_2 ⟨Nat.le_of_ble_eq_true rfl, Nat.le_of_ble_eq_true rfl⟩) ⟨Pw.fb, recvX4 hK hP (q0 := 0) rfl, fun U hU hW => Pw.to (hP.sub [0, 1, 3, 4, 5, 6, 7, 8, 2] rfl) (hD.sub [0, 1, 3, 4, 5, 6, 7, 8, 2] (by decide) rfl) (hK.sub [0, 2, 3, 4, 5, 6, 1] rfl) hE hS hFc hU hW⟩ rfl rfl hl.1 rfl (lv_room (Nat.le_of_ble_eq_true rfl)) dX4_throneByWord_37 ⟨Nat.le_of_ble_eq_true rfl, Nat.le_of_ble_eq_true rfl⟩) hS (fun q _ h => hFc q h) hFc (fun r u t H locs ht hvm hw hB hz1 hk1 hS => ?_)
    have hru9 := hw.2
    have hw := hw.1
    refine ex_1_1 hB (fun f_881 e_f_881_0 hB => ?_)
    obtain ⟨hP, hD, hK⟩ := Bw.go (ws' := [(oc5 oS rS_worths rS_order rS_left), (arI rS_worths kS_worths 18 fS_worths), (oc4 oL rL_values rL_supposed), (arI rL_values kL_values 18 f_881), (oc1 oC iC_nodes iC_words iC_chances iC_unsures iC_slips iC_throneNode iC_saidWorth iC_unit rC_kind rC_parts rC_partNodes rC_weights rC_weightSums rC_toldWorths rC_steps rC_below rC_above rC_unsureWords rC_unsureWorths), (arI rC_kind kC_kind 18 fC_kind), (arI rC_parts kC_parts 18 fC_parts), (arI rC_partNodes kC_partNodes 72 fC_partNodes), (arI rC_weights kC_weights 72 fC_weights), (arI rC_weightSums kC_weightSums 18 fC_weightSums), (arI rL_supposed kL_supposed 18 f_880)]) (tys' := [(kS_worths, .int), (kL_values, .int), (kC_kind, .int), (kC_parts, .int), (kC_partNodes, .int), (kC_weights, .int), (kC_weightSums, .int), (kL_supposed, .int)]) hB rfl ht hvm hP hD hK [0, 1, 3, 4, 5, 6, 7, 8, 2] [9, 10] rfl (by decide) (by decide) [7] hk1 hFc rfl rfl rfl
    clear hz1 hk1 hvm ht hB
    rw [← hru9] at e_f_881_0
    obtain ⟨x_882, rfl⟩ : ∃ z, z = r := ⟨_, rfl⟩
    have hG := hG.trans (un2_eq e_f_881_0)
    exact wq_i hx hb hr (cI x_882) ⟨⟨trivial, trivial⟩, (cI_of x_882)⟩ (fun t ht hW => ⟨f_881, f_880, (cI_tup hG), Bw.to (hP.sub [2, 3, 10, 4, 5, 6, 7, 8, 9, 0, 1] rfl) (hD.sub [2, 3, 10, 4, 5, 6, 7, 8, 9, 0, 1] (by decide) rfl) (hK.sub [1, 7, 2, 3, 4, 5, 6, 0] rfl) ht hW⟩) hS dX4_throneByWord_40 hlocks
  · skip
    have hG := hG.trans (lt_eq hru9.symm)
    have hG := hG.trans (if_neg (by decide))
    refine lv_if_eq (tgt := 31) hx hb dX4_throneByWord_20 (by decide) (fun _ => ?_) (fun c => absurd c (by decide))
    refine lv_aload_n hx hb dX4_throneByWord_31 rfl (lv_at hl 0 rfl) ?_
    refine lv_aload_n hx hb dX4_throneByWord_32 rfl (lv_at hl 1 rfl) ?_
    refine lv_aload_n hx hb dX4_throneByWord_33 rfl (lv_at hl 0 rfl) ?_
    refine va_get (D := (dC, dI)) (ci := 4) (v := .ref rL_supposed) (C := RX4) (T := TX4) (N := 2) hx hb hts inX4 hown hK hP 0 rfl rfl 1 (by decide) (hts _ wd_147) (fun _ h9 => h9) rfl dX4_throneByWord_34 ?_
    have hFc := va_free (wc := [(oc4 oL rL_values rL_supposed), (arI rL_values kL_values 18 fL_values), (oc1 oC iC_nodes iC_words iC_chances iC_unsures iC_slips iC_throneNode iC_saidWorth iC_unit rC_kind rC_parts rC_partNodes rC_weights rC_weightSums rC_toldWorths rC_steps rC_below rC_above rC_unsureWords rC_unsureWorths), (arI rC_kind kC_kind 18 fC_kind), (arI rC_parts kC_parts 18 fC_parts), (arI rC_partNodes kC_partNodes 72 fC_partNodes), (arI rC_weights kC_weights 72 fC_weights), (arI rC_weightSums kC_weightSums 18 fC_weightSums), (arI rL_supposed kL_supposed 18 f_875)]) hD hS hA [0, 1, 3, 4, 5, 6, 7, 8, 2] rfl
    refine va_calli (va_runV (As := [.ref oC, .ref rL_supposed]) (rest := []) ⟨hx, hb, hml, hown, hts⟩ (tX4_weighAll l dC dI _ oL rL_values fL_values kL_values rL_supposed oC iC_nodes iC_words iC_chances iC_unsures iC_slips iC_throneNode iC_saidWorth iC_unit rC_kind fC_kind kC_kind rC_parts fC_parts kC_parts rC_partNodes fC_partNodes kC_partNodes rC_weights fC_weights kC_weights rC_weightSums fC_weightSums kC_weightSums rC_toldWorths rC_steps rC_below rC_above rC_unsureWords rC_unsureWorths rL_supposed f_875 kL_supposed b_iC_nodes b_iC_unsures b_iC_throneNode a_fC_parts a_fC_partNodes) (cwV 2 hts (wd_V wd_949 wd_613 wd_614 wd_37 (wd_c wd_615)) rfl rfl rfl dv_yX4_weighAll_2 ⟨Nat.le_of_ble_eq_true rfl, Nat.le_of_ble_eq_true rfl⟩) ⟨Pw.fb, recvX4 hK hP (q0 := 0) rfl, fun U hU hW => Pw.to (hP.sub [0, 1, 3, 4, 5, 6, 7, 8, 2] rfl) (hD.sub [0, 1, 3, 4, 5, 6, 7, 8, 2] (by decide) rfl) (hK.sub [0, 2, 3, 4, 5, 6, 1] rfl) hE hS hFc hU hW⟩ rfl rfl hl.1 rfl (lv_room (Nat.le_of_ble_eq_true rfl)) dX4_throneByWord_37 ⟨Nat.le_of_ble_eq_true rfl, Nat.le_of_ble_eq_true rfl⟩) hS (fun q _ h => hFc q h) hFc (fun r u t H locs ht hvm hw hB hz1 hk1 hS => ?_)
    have hru9 := hw.2
    have hw := hw.1
    refine ex_1_1 hB (fun f_884 e_f_884_0 hB => ?_)
    obtain ⟨hP, hD, hK⟩ := Bw.go (ws' := [(oc5 oS rS_worths rS_order rS_left), (arI rS_worths kS_worths 18 fS_worths), (oc4 oL rL_values rL_supposed), (arI rL_values kL_values 18 f_884), (oc1 oC iC_nodes iC_words iC_chances iC_unsures iC_slips iC_throneNode iC_saidWorth iC_unit rC_kind rC_parts rC_partNodes rC_weights rC_weightSums rC_toldWorths rC_steps rC_below rC_above rC_unsureWords rC_unsureWorths), (arI rC_kind kC_kind 18 fC_kind), (arI rC_parts kC_parts 18 fC_parts), (arI rC_partNodes kC_partNodes 72 fC_partNodes), (arI rC_weights kC_weights 72 fC_weights), (arI rC_weightSums kC_weightSums 18 fC_weightSums), (arI rL_supposed kL_supposed 18 f_875)]) (tys' := [(kS_worths, .int), (kL_values, .int), (kC_kind, .int), (kC_parts, .int), (kC_partNodes, .int), (kC_weights, .int), (kC_weightSums, .int), (kL_supposed, .int)]) hB rfl ht hvm hP hD hK [0, 1, 3, 4, 5, 6, 7, 8, 2] [9, 10] rfl (by decide) (by decide) [7] hk1 hFc rfl rfl rfl
    clear hz1 hk1 hvm ht hB
    rw [← hru9] at e_f_884_0
    obtain ⟨x_885, rfl⟩ : ∃ z, z = r := ⟨_, rfl⟩
    have hG := hG.trans (un2_eq e_f_884_0)
    exact wq_i hx hb hr (cI x_885) ⟨⟨trivial, trivial⟩, (cI_of x_885)⟩ (fun t ht hW => ⟨f_884, f_875, (cI_tup hG), Bw.to (hP.sub [2, 3, 10, 4, 5, 6, 7, 8, 9, 0, 1] rfl) (hD.sub [2, 3, 10, 4, 5, 6, 7, 8, 9, 0, 1] (by decide) rfl) (hK.sub [1, 7, 2, 3, 4, 5, 6, 0] rfl) ht hW⟩) hS dX4_throneByWord_40 hlocks
set_option maxHeartbeats 4000000 in
set_option maxRecDepth 100000 in
theorem tX4_throneBySet (l : Launch) (dC : Nat → ClassId) (dI : Nat → Nat → Nat) (sz : Nat) (oL : Nat) (rL_values : Nat) (fL_values : Nat → Int32) (kL_values : ClassId) (rL_supposed : Nat) (fL_supposed : Nat → Int32) (kL_supposed : ClassId) (oC : Nat) (iC_nodes : Int32) (iC_words : Int32) (iC_chances : Int32) (iC_unsures : Int32) (iC_slips : Int32) (iC_throneNode : Int32) (iC_saidWorth : Int32) (iC_unit : Int32) (rC_kind : Nat) (fC_kind : Nat → Int32) (kC_kind : ClassId) (rC_parts : Nat) (fC_parts : Nat → Int32) (kC_parts : ClassId) (rC_partNodes : Nat) (fC_partNodes : Nat → Int32) (kC_partNodes : ClassId) (rC_weights : Nat) (fC_weights : Nat → Int32) (kC_weights : ClassId) (rC_weightSums : Nat) (fC_weightSums : Nat → Int32) (kC_weightSums : ClassId) (rC_toldWorths : Nat) (rC_steps : Nat) (rC_below : Nat) (rC_above : Nat) (rC_unsureWords : Nat) (rC_unsureWorths : Nat) (oS : Nat) (rS_worths : Nat) (fS_worths : Nat → Int32) (kS_worths : ClassId) (rS_order : Nat) (rS_left : Nat) (p0 : Int32) (p1 : Int32) (b_iC_nodes : 0 ≤ iC_nodes.toInt ∧ iC_nodes.toInt ≤ 18) (b_iC_unsures : 0 ≤ iC_unsures.toInt ∧ iC_unsures.toInt ≤ 4) (b_iC_throneNode : (-1) ≤ iC_throneNode.toInt ∧ iC_throneNode.toInt ≤ 17) (a_fC_parts : ∀ j : Nat, j < 18 → 0 ≤ (fC_parts j).toInt ∧ (fC_parts j).toInt ≤ 4) (a_fC_partNodes : ∀ j : Nat, j < 72 → 0 ≤ (fC_partNodes j).toInt ∧ (fC_partNodes j).toInt ≤ 17)  : Met l yX4_throneBySet (Cond.code yX4_throneBySet cX4_throneBySet 6 (some .int) :: wG) ({ frames := 3, cells := 0, slots := 0, locals := 71 }) (va_Pc [.ref oL, .ref oC, .ref oS, .int p0, .int p1] (Pw dC dI sz [(oc4 oL rL_values rL_supposed), (arI rL_values kL_values 18 fL_values), (arI rL_supposed kL_supposed 18 fL_supposed), (oc1 oC iC_nodes iC_words iC_chances iC_unsures iC_slips iC_throneNode iC_saidWorth iC_unit rC_kind rC_parts rC_partNodes rC_weights rC_weightSums rC_toldWorths rC_steps rC_below rC_above rC_unsureWords rC_unsureWorths), (arI rC_kind kC_kind 18 fC_kind), (arI rC_parts kC_parts 18 fC_parts), (arI rC_partNodes kC_partNodes 72 fC_partNodes), (arI rC_weights kC_weights 72 fC_weights), (arI rC_weightSums kC_weightSums 18 fC_weightSums), (oc5 oS rS_worths rS_order rS_left), (arI rS_worths kS_worths 18 fS_worths)] [(kL_values, .int), (kL_supposed, .int), (kC_kind, .int), (kC_parts, .int), (kC_partNodes, .int), (kC_weights, .int), (kC_weightSums, .int), (kS_worths, .int)])) (va_Qi (fun (r : Int32) (_ : Nat) => True ∧ True) (fun (_ : Nat) (t : State) => ∃ (nfL_values : Nat → Int32) (nfL_supposed : Nat → Int32), Bw dC dI (va_A [(oc4 oL rL_values rL_supposed), (arI rL_values kL_values 18 fL_values), (arI rL_supposed kL_supposed 18 fL_supposed), (oc1 oC iC_nodes iC_words iC_chances iC_unsures iC_slips iC_throneNode iC_saidWorth iC_unit rC_kind rC_parts rC_partNodes rC_weights rC_weightSums rC_toldWorths rC_steps rC_below rC_above rC_unsureWords rC_unsureWorths), (arI rC_kind kC_kind 18 fC_kind), (arI rC_parts kC_parts 18 fC_parts), (arI rC_partNodes kC_partNodes 72 fC_partNodes), (arI rC_weights kC_weights 72 fC_weights), (arI rC_weightSums kC_weightSums 18 fC_weightSums), (oc5 oS rS_worths rS_order rS_left), (arI rS_worths kS_worths 18 fS_worths)] sz) [(oc4 oL rL_values rL_supposed), (arI rL_values kL_values 18 nfL_values), (arI rL_supposed kL_supposed 18 nfL_supposed), (oc1 oC iC_nodes iC_words iC_chances iC_unsures iC_slips iC_throneNode iC_saidWorth iC_unit rC_kind rC_parts rC_partNodes rC_weights rC_weightSums rC_toldWorths rC_steps rC_below rC_above rC_unsureWords rC_unsureWorths), (arI rC_kind kC_kind 18 fC_kind), (arI rC_parts kC_parts 18 fC_parts), (arI rC_partNodes kC_partNodes 72 fC_partNodes), (arI rC_weights kC_weights 72 fC_weights), (arI rC_weightSums kC_weightSums 18 fC_weightSums), (oc5 oS rS_worths rS_order rS_left), (arI rS_worths kS_worths 18 fS_worths)] [(kL_values, .int), (kL_supposed, .int), (kC_kind, .int), (kC_parts, .int), (kC_partNodes, .int), (kC_weights, .int), (kC_weightSums, .int), (kS_worths, .int)] t) (va_A [(oc4 oL rL_values rL_supposed), (arI rL_values kL_values 18 fL_values), (arI rL_supposed kL_supposed 18 fL_supposed), (oc1 oC iC_nodes iC_words iC_chances iC_unsures iC_slips iC_throneNode iC_saidWorth iC_unit rC_kind rC_parts rC_partNodes rC_weights rC_weightSums rC_toldWorths rC_steps rC_below rC_above rC_unsureWords rC_unsureWorths), (arI rC_kind kC_kind 18 fC_kind), (arI rC_parts kC_parts 18 fC_parts), (arI rC_partNodes kC_partNodes 72 fC_partNodes), (arI rC_weights kC_weights 72 fC_weights), (arI rC_weightSums kC_weightSums 18 fC_weightSums), (oc5 oS rS_worths rS_order rS_left), (arI rS_worths kS_worths 18 fS_worths)] sz)) 0 0 (va_A [(oc4 oL rL_values rL_supposed), (arI rL_values kL_values 18 fL_values), (arI rL_supposed kL_supposed 18 fL_supposed), (oc1 oC iC_nodes iC_words iC_chances iC_unsures iC_slips iC_throneNode iC_saidWorth iC_unit rC_kind rC_parts rC_partNodes rC_weights rC_weightSums rC_toldWorths rC_steps rC_below rC_above rC_unsureWords rC_unsureWorths), (arI rC_kind kC_kind 18 fC_kind), (arI rC_parts kC_parts 18 fC_parts), (arI rC_partNodes kC_partNodes 72 fC_partNodes), (arI rC_weights kC_weights 72 fC_weights), (arI rC_weightSums kC_weightSums 18 fC_weightSums), (oc5 oS rS_worths rS_order rS_left), (arI rS_worths kS_worths 18 fS_worths)] sz) := by
  refine Met.ofW (cc := cX4_throneBySet) (maxL := 6) (ret := (some .int)) pnX4 rfl ?_
  intro p e s m args below meth c s₁ B hml hv
  obtain ⟨rfl, hsz, hP, hK, hD0, hE⟩ := hv
  have hx := B.exec
  have hb := B.bytes
  have hr := B.returns
  have hts : ∀ w ∈ wG, w.before ([.ref oL, .ref oC, .ref oS, .int p0, .int p1] : List Value).toArray s = true := fun w h => atoms_spec (ws := Cond.code yX4_throneBySet cX4_throneBySet 6 (some .int) :: wG) B.pre w (List.mem_cons_of_mem _ h)
  have hown : s.vm.findClass RX4 = some m.cls := own_of B.named rfl
  have hlocks := B.notSynchronized
  subst hsz
  have hD := hD0.self (sz := s.heap.size)
  generalize hAe : va_A [(oc4 oL rL_values rL_supposed), (arI rL_values kL_values 18 fL_values), (arI rL_supposed kL_supposed 18 fL_supposed), (oc1 oC iC_nodes iC_words iC_chances iC_unsures iC_slips iC_throneNode iC_saidWorth iC_unit rC_kind rC_parts rC_partNodes rC_weights rC_weightSums rC_toldWorths rC_steps rC_below rC_above rC_unsureWords rC_unsureWorths), (arI rC_kind kC_kind 18 fC_kind), (arI rC_parts kC_parts 18 fC_parts), (arI rC_partNodes kC_partNodes 72 fC_partNodes), (arI rC_weights kC_weights 72 fC_weights), (arI rC_weightSums kC_weightSums 18 fC_weightSums), (oc5 oS rS_worths rS_order rS_left), (arI rS_worths kS_worths 18 fS_worths)] s.heap.size = A at hD hE ⊢
  have hA : ∀ q : Nat, s.heap.size ≤ q → A q := fun q h => by rw [← hAe]; exact Or.inr h
  have hS : va_S A s.heap s.heap [] := va_S.rf
  have hl := lv_entry ([.ref oL, .ref oC, .ref oS, .int p0, .int p1]) (n := 6) (Nat.le_of_ble_eq_true rfl)
  rw [lg_entry_eq]
  generalize (lg_sl ([.ref oL, .ref oC, .ref oS, .int p0, .int p1]) ++ List.replicate (6 - (lg_sl ([.ref oL, .ref oC, .ref oS, .int p0, .int p1])).length) Slot.unset).toArray = ls at hl ⊢
  have hl : lv_has ls 6 [(0, .ref oL), (1, .ref oC), (2, .ref oS), (3, .int p0), (4, .int p1)] := hl
  have rg_p0 := fb_rng p0
  have rg_p1 := fb_rng p1
  refine lv_iconst (v := 0) hx hb dX4_throneBySet_0 (by decide) ?_
  refine lv_istore (lv' := [(5, .int 0), (0, .ref oL), (1, .ref oC), (2, .ref oS), (3, .int p0), (4, .int p1)]) hx hb dX4_throneBySet_1 hl (by decide) rfl (fun ls hl => ?_)
  have hl := lv_sub hl (l' := [(5, .int 0), (0, .ref oL), (1, .ref oC), (2, .ref oS), (3, .int p0), (4, .int p1)]) [0, 1, 2, 3, 4, 5] rfl
  have key_n_912 : ∀ (n_912 : Nat) (z_910 : Int32) (f_911 : Nat → Int32) (H : Heap) (locs : List Loc) (ls : Array Slot), (0 ≤ z_910.toInt ∧ z_910.toInt ≤ 2147483647) → (2147483647 - z_910.toInt).toNat < n_912 → va_P (dC, dI) vwCl [(oc4 oL rL_values rL_supposed), (arI rL_values kL_values 18 fL_values), (arI rL_supposed kL_supposed 18 f_911), (oc1 oC iC_nodes iC_words iC_chances iC_unsures iC_slips iC_throneNode iC_saidWorth iC_unit rC_kind rC_parts rC_partNodes rC_weights rC_weightSums rC_toldWorths rC_steps rC_below rC_above rC_unsureWords rC_unsureWorths), (arI rC_kind kC_kind 18 fC_kind), (arI rC_parts kC_parts 18 fC_parts), (arI rC_partNodes kC_partNodes 72 fC_partNodes), (arI rC_weights kC_weights 72 fC_weights), (arI rC_weightSums kC_weightSums 18 fC_weightSums), (oc5 oS rS_worths rS_order rS_left), (arI rS_worths kS_worths 18 fS_worths)] H → va_D A [(oc4 oL rL_values rL_supposed), (arI rL_values kL_values 18 fL_values), (arI rL_supposed kL_supposed 18 f_911), (oc1 oC iC_nodes iC_words iC_chances iC_unsures iC_slips iC_throneNode iC_saidWorth iC_unit rC_kind rC_parts rC_partNodes rC_weights rC_weightSums rC_toldWorths rC_steps rC_below rC_above rC_unsureWords rC_unsureWorths), (arI rC_kind kC_kind 18 fC_kind), (arI rC_parts kC_parts 18 fC_parts), (arI rC_partNodes kC_partNodes 72 fC_partNodes), (arI rC_weights kC_weights 72 fC_weights), (arI rC_weightSums kC_weightSums 18 fC_weightSums), (oc5 oS rS_worths rS_order rS_left), (arI rS_worths kS_worths 18 fS_worths)] → va_S A s.heap H locs → lv_has ls 6 [(5, .int z_910), (0, .ref oL), (1, .ref oC), (2, .ref oS), (3, .int p0), (4, .int p1)] → W p l e (headSpec (Cond.code yX4_throneBySet cX4_throneBySet 6 (some .int) :: wG) ({ frames := 3, cells := 0, slots := 0, locals := 71 })).room s m ([.ref oL, .ref oC, .ref oS, .int p0, .int p1] : List Value).toArray below meth c H locs 0 0 (MQ below (va_Qi (fun (r : Int32) (_ : Nat) => True ∧ True) (fun (_ : Nat) (t : State) => ∃ (nfL_values : Nat → Int32) (nfL_supposed : Nat → Int32), Bw dC dI A [(oc4 oL rL_values rL_supposed), (arI rL_values kL_values 18 nfL_values), (arI rL_supposed kL_supposed 18 nfL_supposed), (oc1 oC iC_nodes iC_words iC_chances iC_unsures iC_slips iC_throneNode iC_saidWorth iC_unit rC_kind rC_parts rC_partNodes rC_weights rC_weightSums rC_toldWorths rC_steps rC_below rC_above rC_unsureWords rC_unsureWorths), (arI rC_kind kC_kind 18 fC_kind), (arI rC_parts kC_parts 18 fC_parts), (arI rC_partNodes kC_partNodes 72 fC_partNodes), (arI rC_weights kC_weights 72 fC_weights), (arI rC_weightSums kC_weightSums 18 fC_weightSums), (oc5 oS rS_worths rS_order rS_left), (arI rS_worths kS_worths 18 fS_worths)] [(kL_values, .int), (kL_supposed, .int), (kC_kind, .int), (kC_parts, .int), (kC_partNodes, .int), (kC_weights, .int), (kC_weightSums, .int), (kS_worths, .int)] t) A) ([.ref oL, .ref oC, .ref oS, .int p0, .int p1] : List Value).toArray s 0 0 A) (F0 m 3 ls []) := by
    intro n_912
    induction n_912 with
    | zero => intro z_910 f_911 H locs ls hi0_n_912 hm; exact absurd hm (Nat.not_lt_zero _)
    | succ n_912 ih_n_912 =>
      intro z_910 f_911 H locs ls hi0_n_912 hm_n_912 hP hD hS hl
      have rg_z_910 := fb_rng z_910
      refine lv_iload hx hb dX4_throneBySet_3 (lv_at hl 0 rfl) ?_
      refine lv_aload_n hx hb dX4_throneBySet_5 rfl (lv_at hl 2 rfl) ?_
      refine va_get (D := (dC, dI)) (ci := 1) (v := .int iC_nodes) (C := RX1) (T := TX1) (N := 19) hx hb hts inX1 hown hK hP 3 rfl rfl 0 (by decide) (hts _ wd_616) (fun _ h9 => h9) rfl dX4_throneBySet_6 ?_
      have rg_iC_nodes := fb_rng iC_nodes
      refine lv_icmp_ge (tgt := 47) hx hb dX4_throneBySet_9 (by decide) (fun c_913 => ?_) (fun c_913 => ?_)
      · skip
        have gc_913 := ti_le c_913 rfl rfl
        refine lv_aload_n hx hb dX4_throneBySet_47 rfl (lv_at hl 1 rfl) ?_
        refine lv_aload_n hx hb dX4_throneBySet_48 rfl (lv_at hl 2 rfl) ?_
        refine lv_aload_n hx hb dX4_throneBySet_49 rfl (lv_at hl 1 rfl) ?_
        refine va_get (D := (dC, dI)) (ci := 4) (v := .ref rL_supposed) (C := RX4) (T := TX4) (N := 2) hx hb hts inX4 hown hK hP 0 rfl rfl 1 (by decide) (hts _ wd_147) (fun _ h9 => h9) rfl dX4_throneBySet_50 ?_
        have hFc := va_free (wc := [(oc4 oL rL_values rL_supposed), (arI rL_values kL_values 18 fL_values), (oc1 oC iC_nodes iC_words iC_chances iC_unsures iC_slips iC_throneNode iC_saidWorth iC_unit rC_kind rC_parts rC_partNodes rC_weights rC_weightSums rC_toldWorths rC_steps rC_below rC_above rC_unsureWords rC_unsureWorths), (arI rC_kind kC_kind 18 fC_kind), (arI rC_parts kC_parts 18 fC_parts), (arI rC_partNodes kC_partNodes 72 fC_partNodes), (arI rC_weights kC_weights 72 fC_weights), (arI rC_weightSums kC_weightSums 18 fC_weightSums), (arI rL_supposed kL_supposed 18 f_911)]) hD hS hA [0, 1, 3, 4, 5, 6, 7, 8, 2] rfl
        refine va_calli (va_runV (As := [.ref oC, .ref rL_supposed]) (rest := []) ⟨hx, hb, hml, hown, hts⟩ (tX4_weighAll l dC dI _ oL rL_values fL_values kL_values rL_supposed oC iC_nodes iC_words iC_chances iC_unsures iC_slips iC_throneNode iC_saidWorth iC_unit rC_kind fC_kind kC_kind rC_parts fC_parts kC_parts rC_partNodes fC_partNodes kC_partNodes rC_weights fC_weights kC_weights rC_weightSums fC_weightSums kC_weightSums rC_toldWorths rC_steps rC_below rC_above rC_unsureWords rC_unsureWorths rL_supposed f_911 kL_supposed b_iC_nodes b_iC_unsures b_iC_throneNode a_fC_parts a_fC_partNodes) (cwV 2 hts (wd_V wd_949 wd_613 wd_614 wd_37 (wd_c wd_615)) rfl rfl rfl dv_yX4_weighAll_2 ⟨Nat.le_of_ble_eq_true rfl, Nat.le_of_ble_eq_true rfl⟩) ⟨Pw.fb, recvX4 hK hP (q0 := 0) rfl, fun U hU hW => Pw.to (hP.sub [0, 1, 3, 4, 5, 6, 7, 8, 2] rfl) (hD.sub [0, 1, 3, 4, 5, 6, 7, 8, 2] (by decide) rfl) (hK.sub [0, 2, 3, 4, 5, 6, 1] rfl) hE hS hFc hU hW⟩ rfl rfl hl.1 rfl (lv_room (Nat.le_of_ble_eq_true rfl)) dX4_throneBySet_53 ⟨Nat.le_of_ble_eq_true rfl, Nat.le_of_ble_eq_true rfl⟩) hS (fun q _ h => hFc q h) hFc (fun r u t H locs ht hvm hw hB hz1 hk1 hS => ?_)
        have hru9 := hw.2
        have hw := hw.1
        refine ex_1_1 hB (fun f_914 e_f_914_0 hB => ?_)
        obtain ⟨hP, hD, hK⟩ := Bw.go (ws' := [(oc5 oS rS_worths rS_order rS_left), (arI rS_worths kS_worths 18 fS_worths), (oc4 oL rL_values rL_supposed), (arI rL_values kL_values 18 f_914), (oc1 oC iC_nodes iC_words iC_chances iC_unsures iC_slips iC_throneNode iC_saidWorth iC_unit rC_kind rC_parts rC_partNodes rC_weights rC_weightSums rC_toldWorths rC_steps rC_below rC_above rC_unsureWords rC_unsureWorths), (arI rC_kind kC_kind 18 fC_kind), (arI rC_parts kC_parts 18 fC_parts), (arI rC_partNodes kC_partNodes 72 fC_partNodes), (arI rC_weights kC_weights 72 fC_weights), (arI rC_weightSums kC_weightSums 18 fC_weightSums), (arI rL_supposed kL_supposed 18 f_911)]) (tys' := [(kS_worths, .int), (kL_values, .int), (kC_kind, .int), (kC_parts, .int), (kC_partNodes, .int), (kC_weights, .int), (kC_weightSums, .int), (kL_supposed, .int)]) hB rfl ht hvm hP hD hK [0, 1, 3, 4, 5, 6, 7, 8, 2] [9, 10] rfl (by decide) (by decide) [7] hk1 hFc rfl rfl rfl
        clear hz1 hk1 hvm ht hB
        obtain ⟨x_915, rfl⟩ : ∃ z, z = r := ⟨_, rfl⟩
        have rg_x_915 := fb_rng x_915
        exact wq_i hx hb hr 0 ⟨trivial, trivial⟩ (fun t ht hW => ⟨f_914, f_911, Bw.to (hP.sub [2, 3, 10, 4, 5, 6, 7, 8, 9, 0, 1] rfl) (hD.sub [2, 3, 10, 4, 5, 6, 7, 8, 9, 0, 1] (by decide) rfl) (hK.sub [1, 7, 2, 3, 4, 5, 6, 0] rfl) ht hW⟩) hS dX4_throneBySet_56 hlocks
      · skip
        have gc_913 := ti_nle c_913 rfl rfl
        refine lv_aload_n hx hb dX4_throneBySet_12 rfl (lv_at hl 1 rfl) ?_
        refine va_get (D := (dC, dI)) (ci := 4) (v := .ref rL_supposed) (C := RX4) (T := TX4) (N := 2) hx hb hts inX4 hown hK hP 0 rfl rfl 1 (by decide) (hts _ wd_147) (fun _ h9 => h9) rfl dX4_throneBySet_13 ?_
        refine lv_iload hx hb dX4_throneBySet_16 (lv_at hl 0 rfl) ?_
        refine lv_iload_n hx hb dX4_throneBySet_18 rfl (lv_at hl 4 rfl) ?_
        refine lv_iload hx hb dX4_throneBySet_19 (lv_at hl 0 rfl) ?_
        refine lv_ishr hx hb dX4_throneBySet_21 ?_
        refine lv_topi (fun x_916 ex_916 => ?_)
        have rg_x_916 := fb_rng x_916
        refine lv_iconst (v := 1) hx hb dX4_throneBySet_22 (by decide) ?_
        refine lv_iand hx hb dX4_throneBySet_23 ?_
        refine lv_topi (fun x_917 ex_917 => ?_)
        have rg_x_917 := fb_rng x_917
        refine lv_iconst (v := 1) hx hb dX4_throneBySet_24 (by decide) ?_
        refine lv_icmp_ne (tgt := 38) hx hb dX4_throneBySet_25 (by decide) (fun c_918 => ?_) (fun c_918 => ?_)
        · skip
          have gc_918 := ti_ne c_918 rfl kc_1
          refine lv_iload hx hb dX4_throneBySet_38 (lv_at hl 5 rfl) ?_
          refine vz_iast hx hb hK hP hD hS 2 1 rfl rfl (ti_in rfl hi0_n_912.1 (om_97cd4a7c b_iC_nodes.2 gc_913)) dX4_throneBySet_40 (fun H locs f_919 hP hD hS => ?_)
          obtain ⟨hP, hD⟩ := wl2 (ws' := [(oc4 oL rL_values rL_supposed), (arI rL_values kL_values 18 fL_values), (arI rL_supposed kL_supposed 18 f_919), (oc1 oC iC_nodes iC_words iC_chances iC_unsures iC_slips iC_throneNode iC_saidWorth iC_unit rC_kind rC_parts rC_partNodes rC_weights rC_weightSums rC_toldWorths rC_steps rC_below rC_above rC_unsureWords rC_unsureWorths), (arI rC_kind kC_kind 18 fC_kind), (arI rC_parts kC_parts 18 fC_parts), (arI rC_partNodes kC_partNodes 72 fC_partNodes), (arI rC_weights kC_weights 72 fC_weights), (arI rC_weightSums kC_weightSums 18 fC_weightSums), (oc5 oS rS_worths rS_order rS_left), (arI rS_worths kS_worths 18 fS_worths)]) hP hD rfl
          obtain ⟨x_920, ex_920⟩ : ∃ z : Int32, z = z_910 + Int32.ofInt 1 := ⟨_, rfl⟩
          have vx_920 : x_920.toInt = z_910.toInt + 1 := ti_add (y := 1) ex_920 rfl kc_1 (om_4e4fce7e hi0_n_912.1) (om_a32d6481 b_iC_nodes.2 gc_913)
          refine lv_iinc (v := x_920) (lv' := [(5, .int x_920), (0, .ref oL), (1, .ref oC), (2, .ref oS), (3, .int p0), (4, .int p1)]) hx hb dX4_throneBySet_41 hl (k := 0) rfl ex_920.symm (by decide) rfl (fun ls hl => ?_)
          refine lv_goto (tgt := 3) hx hb dX4_throneBySet_44 (by decide) ?_
          exact ih_n_912 x_920 f_919 _ _ _  ⟨(om_83b90de5 hi0_n_912.1 vx_920), (om_ed8867da b_iC_nodes.2 gc_913 vx_920)⟩ (ms_lt hm_n_912 (om_b9393183 vx_920) (om_1d9fa7fb b_iC_nodes.2 gc_913)) hP hD hS (lv_sub hl [0, 1, 2, 3, 4, 5] rfl)
        · skip
          have gc_918 := ti_eq c_918 rfl kc_1
          refine lv_aload_n hx hb dX4_throneBySet_28 rfl (lv_at hl 3 rfl) ?_
          refine va_get (D := (dC, dI)) (ci := 5) (v := .ref rS_worths) (C := RX5) (T := TX5) (N := 3) hx hb hts inX5 hown hK hP 9 rfl rfl 0 (by decide) (hts _ wd_948) (fun _ h9 => h9) rfl dX4_throneBySet_29 ?_
          refine lv_iload hx hb dX4_throneBySet_32 (lv_at hl 0 rfl) ?_
          refine va_iald hx hb hK hP 10 7 rfl rfl (ti_in rfl hi0_n_912.1 (om_97cd4a7c b_iC_nodes.2 gc_913)) dX4_throneBySet_34 ?_
          refine lv_topi (fun x_921 ex_921 => ?_)
          have rg_x_921 := fb_rng x_921
          have kx_921 : (fS_worths z_910.toNatClampNeg).toInt = x_921.toInt := by rw [ex_921]
          refine lv_goto (tgt := 40) hx hb dX4_throneBySet_35 (by decide) ?_
          refine vz_iast hx hb hK hP hD hS 2 1 rfl rfl (ti_in rfl hi0_n_912.1 (om_97cd4a7c b_iC_nodes.2 gc_913)) dX4_throneBySet_40 (fun H locs f_922 hP hD hS => ?_)
          obtain ⟨hP, hD⟩ := wl2 (ws' := [(oc4 oL rL_values rL_supposed), (arI rL_values kL_values 18 fL_values), (arI rL_supposed kL_supposed 18 f_922), (oc1 oC iC_nodes iC_words iC_chances iC_unsures iC_slips iC_throneNode iC_saidWorth iC_unit rC_kind rC_parts rC_partNodes rC_weights rC_weightSums rC_toldWorths rC_steps rC_below rC_above rC_unsureWords rC_unsureWorths), (arI rC_kind kC_kind 18 fC_kind), (arI rC_parts kC_parts 18 fC_parts), (arI rC_partNodes kC_partNodes 72 fC_partNodes), (arI rC_weights kC_weights 72 fC_weights), (arI rC_weightSums kC_weightSums 18 fC_weightSums), (oc5 oS rS_worths rS_order rS_left), (arI rS_worths kS_worths 18 fS_worths)]) hP hD rfl
          obtain ⟨x_923, ex_923⟩ : ∃ z : Int32, z = z_910 + Int32.ofInt 1 := ⟨_, rfl⟩
          have vx_923 : x_923.toInt = z_910.toInt + 1 := ti_add (y := 1) ex_923 rfl kc_1 (om_4e4fce7e hi0_n_912.1) (om_a32d6481 b_iC_nodes.2 gc_913)
          refine lv_iinc (v := x_923) (lv' := [(5, .int x_923), (0, .ref oL), (1, .ref oC), (2, .ref oS), (3, .int p0), (4, .int p1)]) hx hb dX4_throneBySet_41 hl (k := 0) rfl ex_923.symm (by decide) rfl (fun ls hl => ?_)
          refine lv_goto (tgt := 3) hx hb dX4_throneBySet_44 (by decide) ?_
          exact ih_n_912 x_923 f_922 _ _ _  ⟨(om_83b90de5 hi0_n_912.1 vx_923), (om_ed8867da b_iC_nodes.2 gc_913 vx_923)⟩ (ms_lt hm_n_912 (om_b9393183 vx_923) (om_1d9fa7fb b_iC_nodes.2 gc_913)) hP hD hS (lv_sub hl [0, 1, 2, 3, 4, 5] rfl)
  exact key_n_912 (((2147483647 - (0 : Int32).toInt).toNat) + 1) 0 fL_supposed _ _ _  ⟨(om_b1de7dbe kc_0), (om_daf17c64 kc_0)⟩ (Nat.lt_add_one _) hP hD hS hl
set_option maxHeartbeats 4000000 in
set_option maxRecDepth 100000 in
theorem tX4_throneByUnsure (l : Launch) (dC : Nat → ClassId) (dI : Nat → Nat → Nat) (sz : Nat) (oL : Nat) (rL_values : Nat) (fL_values : Nat → Int32) (kL_values : ClassId) (rL_supposed : Nat) (fL_supposed : Nat → Int32) (kL_supposed : ClassId) (oC : Nat) (iC_nodes : Int32) (iC_words : Int32) (iC_chances : Int32) (iC_unsures : Int32) (iC_slips : Int32) (iC_throneNode : Int32) (iC_saidWorth : Int32) (iC_unit : Int32) (rC_kind : Nat) (fC_kind : Nat → Int32) (kC_kind : ClassId) (rC_parts : Nat) (fC_parts : Nat → Int32) (kC_parts : ClassId) (rC_partNodes : Nat) (fC_partNodes : Nat → Int32) (kC_partNodes : ClassId) (rC_weights : Nat) (fC_weights : Nat → Int32) (kC_weights : ClassId) (rC_weightSums : Nat) (fC_weightSums : Nat → Int32) (kC_weightSums : ClassId) (rC_toldWorths : Nat) (rC_steps : Nat) (rC_below : Nat) (rC_above : Nat) (rC_unsureWords : Nat) (fC_unsureWords : Nat → Int32) (kC_unsureWords : ClassId) (rC_unsureWorths : Nat) (fC_unsureWorths : Nat → Int32) (kC_unsureWorths : ClassId) (rW : Nat) (fW : Nat → Int32) (kW : ClassId) (p0 : Int32) (b_iC_nodes : 0 ≤ iC_nodes.toInt ∧ iC_nodes.toInt ≤ 18) (b_iC_unsures : 0 ≤ iC_unsures.toInt ∧ iC_unsures.toInt ≤ 4) (b_iC_throneNode : (-1) ≤ iC_throneNode.toInt ∧ iC_throneNode.toInt ≤ 17) (a_fC_parts : ∀ j : Nat, j < 18 → 0 ≤ (fC_parts j).toInt ∧ (fC_parts j).toInt ≤ 4) (a_fC_partNodes : ∀ j : Nat, j < 72 → 0 ≤ (fC_partNodes j).toInt ∧ (fC_partNodes j).toInt ≤ 17) (a_fC_unsureWords : ∀ j : Nat, j < 4 → 0 ≤ (fC_unsureWords j).toInt ∧ (fC_unsureWords j).toInt ≤ 17)  : Met l yX4_throneByUnsure (Cond.code yX4_throneByUnsure cX4_throneByUnsure 5 (some .int) :: wG) ({ frames := 3, cells := 0, slots := 0, locals := 71 }) (va_Pc [.ref oL, .ref oC, .ref rW, .int p0] (Pw dC dI sz [(oc4 oL rL_values rL_supposed), (arI rL_values kL_values 18 fL_values), (arI rL_supposed kL_supposed 18 fL_supposed), (oc1 oC iC_nodes iC_words iC_chances iC_unsures iC_slips iC_throneNode iC_saidWorth iC_unit rC_kind rC_parts rC_partNodes rC_weights rC_weightSums rC_toldWorths rC_steps rC_below rC_above rC_unsureWords rC_unsureWorths), (arI rC_kind kC_kind 18 fC_kind), (arI rC_parts kC_parts 18 fC_parts), (arI rC_partNodes kC_partNodes 72 fC_partNodes), (arI rC_weights kC_weights 72 fC_weights), (arI rC_weightSums kC_weightSums 18 fC_weightSums), (arI rC_unsureWords kC_unsureWords 4 fC_unsureWords), (arI rC_unsureWorths kC_unsureWorths 4 fC_unsureWorths), (arI rW kW 18 fW)] [(kL_values, .int), (kL_supposed, .int), (kC_kind, .int), (kC_parts, .int), (kC_partNodes, .int), (kC_weights, .int), (kC_weightSums, .int), (kC_unsureWords, .int), (kC_unsureWorths, .int), (kW, .int)])) (va_Qi (fun (r : Int32) (_ : Nat) => True ∧ True) (fun (_ : Nat) (t : State) => ∃ (nfL_values : Nat → Int32) (nfL_supposed : Nat → Int32), Bw dC dI (va_A [(oc4 oL rL_values rL_supposed), (arI rL_values kL_values 18 fL_values), (arI rL_supposed kL_supposed 18 fL_supposed), (oc1 oC iC_nodes iC_words iC_chances iC_unsures iC_slips iC_throneNode iC_saidWorth iC_unit rC_kind rC_parts rC_partNodes rC_weights rC_weightSums rC_toldWorths rC_steps rC_below rC_above rC_unsureWords rC_unsureWorths), (arI rC_kind kC_kind 18 fC_kind), (arI rC_parts kC_parts 18 fC_parts), (arI rC_partNodes kC_partNodes 72 fC_partNodes), (arI rC_weights kC_weights 72 fC_weights), (arI rC_weightSums kC_weightSums 18 fC_weightSums), (arI rC_unsureWords kC_unsureWords 4 fC_unsureWords), (arI rC_unsureWorths kC_unsureWorths 4 fC_unsureWorths), (arI rW kW 18 fW)] sz) [(oc4 oL rL_values rL_supposed), (arI rL_values kL_values 18 nfL_values), (arI rL_supposed kL_supposed 18 nfL_supposed), (oc1 oC iC_nodes iC_words iC_chances iC_unsures iC_slips iC_throneNode iC_saidWorth iC_unit rC_kind rC_parts rC_partNodes rC_weights rC_weightSums rC_toldWorths rC_steps rC_below rC_above rC_unsureWords rC_unsureWorths), (arI rC_kind kC_kind 18 fC_kind), (arI rC_parts kC_parts 18 fC_parts), (arI rC_partNodes kC_partNodes 72 fC_partNodes), (arI rC_weights kC_weights 72 fC_weights), (arI rC_weightSums kC_weightSums 18 fC_weightSums), (arI rC_unsureWords kC_unsureWords 4 fC_unsureWords), (arI rC_unsureWorths kC_unsureWorths 4 fC_unsureWorths), (arI rW kW 18 fW)] [(kL_values, .int), (kL_supposed, .int), (kC_kind, .int), (kC_parts, .int), (kC_partNodes, .int), (kC_weights, .int), (kC_weightSums, .int), (kC_unsureWords, .int), (kC_unsureWorths, .int), (kW, .int)] t) (va_A [(oc4 oL rL_values rL_supposed), (arI rL_values kL_values 18 fL_values), (arI rL_supposed kL_supposed 18 fL_supposed), (oc1 oC iC_nodes iC_words iC_chances iC_unsures iC_slips iC_throneNode iC_saidWorth iC_unit rC_kind rC_parts rC_partNodes rC_weights rC_weightSums rC_toldWorths rC_steps rC_below rC_above rC_unsureWords rC_unsureWorths), (arI rC_kind kC_kind 18 fC_kind), (arI rC_parts kC_parts 18 fC_parts), (arI rC_partNodes kC_partNodes 72 fC_partNodes), (arI rC_weights kC_weights 72 fC_weights), (arI rC_weightSums kC_weightSums 18 fC_weightSums), (arI rC_unsureWords kC_unsureWords 4 fC_unsureWords), (arI rC_unsureWorths kC_unsureWorths 4 fC_unsureWorths), (arI rW kW 18 fW)] sz)) 0 0 (va_A [(oc4 oL rL_values rL_supposed), (arI rL_values kL_values 18 fL_values), (arI rL_supposed kL_supposed 18 fL_supposed), (oc1 oC iC_nodes iC_words iC_chances iC_unsures iC_slips iC_throneNode iC_saidWorth iC_unit rC_kind rC_parts rC_partNodes rC_weights rC_weightSums rC_toldWorths rC_steps rC_below rC_above rC_unsureWords rC_unsureWorths), (arI rC_kind kC_kind 18 fC_kind), (arI rC_parts kC_parts 18 fC_parts), (arI rC_partNodes kC_partNodes 72 fC_partNodes), (arI rC_weights kC_weights 72 fC_weights), (arI rC_weightSums kC_weightSums 18 fC_weightSums), (arI rC_unsureWords kC_unsureWords 4 fC_unsureWords), (arI rC_unsureWorths kC_unsureWorths 4 fC_unsureWorths), (arI rW kW 18 fW)] sz) := by
  refine Met.ofW (cc := cX4_throneByUnsure) (maxL := 5) (ret := (some .int)) pnX4 rfl ?_
  intro p e s m args below meth c s₁ B hml hv
  obtain ⟨rfl, hsz, hP, hK, hD0, hE⟩ := hv
  have hx := B.exec
  have hb := B.bytes
  have hr := B.returns
  have hts : ∀ w ∈ wG, w.before ([.ref oL, .ref oC, .ref rW, .int p0] : List Value).toArray s = true := fun w h => atoms_spec (ws := Cond.code yX4_throneByUnsure cX4_throneByUnsure 5 (some .int) :: wG) B.pre w (List.mem_cons_of_mem _ h)
  have hown : s.vm.findClass RX4 = some m.cls := own_of B.named rfl
  have hlocks := B.notSynchronized
  subst hsz
  have hD := hD0.self (sz := s.heap.size)
  generalize hAe : va_A [(oc4 oL rL_values rL_supposed), (arI rL_values kL_values 18 fL_values), (arI rL_supposed kL_supposed 18 fL_supposed), (oc1 oC iC_nodes iC_words iC_chances iC_unsures iC_slips iC_throneNode iC_saidWorth iC_unit rC_kind rC_parts rC_partNodes rC_weights rC_weightSums rC_toldWorths rC_steps rC_below rC_above rC_unsureWords rC_unsureWorths), (arI rC_kind kC_kind 18 fC_kind), (arI rC_parts kC_parts 18 fC_parts), (arI rC_partNodes kC_partNodes 72 fC_partNodes), (arI rC_weights kC_weights 72 fC_weights), (arI rC_weightSums kC_weightSums 18 fC_weightSums), (arI rC_unsureWords kC_unsureWords 4 fC_unsureWords), (arI rC_unsureWorths kC_unsureWorths 4 fC_unsureWorths), (arI rW kW 18 fW)] s.heap.size = A at hD hE ⊢
  have hA : ∀ q : Nat, s.heap.size ≤ q → A q := fun q h => by rw [← hAe]; exact Or.inr h
  have hS : va_S A s.heap s.heap [] := va_S.rf
  have hl := lv_entry ([.ref oL, .ref oC, .ref rW, .int p0]) (n := 5) (Nat.le_of_ble_eq_true rfl)
  rw [lg_entry_eq]
  generalize (lg_sl ([.ref oL, .ref oC, .ref rW, .int p0]) ++ List.replicate (5 - (lg_sl ([.ref oL, .ref oC, .ref rW, .int p0])).length) Slot.unset).toArray = ls at hl ⊢
  have hl : lv_has ls 5 [(0, .ref oL), (1, .ref oC), (2, .ref rW), (3, .int p0)] := hl
  have rg_p0 := fb_rng p0
  refine lv_aload_n hx hb dX4_throneByUnsure_0 rfl (lv_at hl 2 rfl) ?_
  refine lv_iconst (v := 0) hx hb dX4_throneByUnsure_1 (by decide) ?_
  refine lv_aload_n hx hb dX4_throneByUnsure_2 rfl (lv_at hl 0 rfl) ?_
  refine va_get (D := (dC, dI)) (ci := 4) (v := .ref rL_supposed) (C := RX4) (T := TX4) (N := 2) hx hb hts inX4 hown hK hP 0 rfl rfl 1 (by decide) (hts _ wd_147) (fun _ h9 => h9) rfl dX4_throneByUnsure_3 ?_
  refine lv_iconst (v := 0) hx hb dX4_throneByUnsure_6 (by decide) ?_
  refine lv_bipush (v := 18) hx hb dX4_throneByUnsure_7 (by decide) ?_
  refine vz_copyi hx hb (hml.trans hl.1.symm) hown (hts _ wd_1134) (hts _ wd_1016) (hts _ wd_1017) (hts _ wd_1018) hK hP hD hS 11 2 9 1 rfl rfl rfl rfl (k := 18) (by decide) (by decide) (Nat.le_of_ble_eq_true rfl) (Nat.le_of_ble_eq_true (by decide +kernel)) dX4_throneByUnsure_9 (fun H locs f_953 c_f_953 hP hD hS => ?_)
  obtain ⟨hP, hD⟩ := wl2 (ws' := [(oc4 oL rL_values rL_supposed), (arI rL_values kL_values 18 fL_values), (arI rL_supposed kL_supposed 18 f_953), (oc1 oC iC_nodes iC_words iC_chances iC_unsures iC_slips iC_throneNode iC_saidWorth iC_unit rC_kind rC_parts rC_partNodes rC_weights rC_weightSums rC_toldWorths rC_steps rC_below rC_above rC_unsureWords rC_unsureWorths), (arI rC_kind kC_kind 18 fC_kind), (arI rC_parts kC_parts 18 fC_parts), (arI rC_partNodes kC_partNodes 72 fC_partNodes), (arI rC_weights kC_weights 72 fC_weights), (arI rC_weightSums kC_weightSums 18 fC_weightSums), (arI rC_unsureWords kC_unsureWords 4 fC_unsureWords), (arI rC_unsureWorths kC_unsureWorths 4 fC_unsureWorths), (arI rW kW 18 fW)]) hP hD rfl
  refine lv_iconst (v := 0) hx hb dX4_throneByUnsure_12 (by decide) ?_
  refine lv_istore (lv' := [(4, .int 0), (0, .ref oL), (1, .ref oC), (2, .ref rW), (3, .int p0)]) hx hb dX4_throneByUnsure_13 hl (by decide) rfl (fun ls hl => ?_)
  have hl := lv_sub hl (l' := [(4, .int 0), (0, .ref oL), (1, .ref oC), (2, .ref rW), (3, .int p0)]) [0, 1, 2, 3, 4] rfl
  have key_n_956 : ∀ (n_956 : Nat) (z_954 : Int32) (f_955 : Nat → Int32) (H : Heap) (locs : List Loc) (ls : Array Slot), (0 ≤ z_954.toInt ∧ z_954.toInt ≤ 2147483647) → (2147483647 - z_954.toInt).toNat < n_956 → va_P (dC, dI) vwCl [(oc4 oL rL_values rL_supposed), (arI rL_values kL_values 18 fL_values), (arI rL_supposed kL_supposed 18 f_955), (oc1 oC iC_nodes iC_words iC_chances iC_unsures iC_slips iC_throneNode iC_saidWorth iC_unit rC_kind rC_parts rC_partNodes rC_weights rC_weightSums rC_toldWorths rC_steps rC_below rC_above rC_unsureWords rC_unsureWorths), (arI rC_kind kC_kind 18 fC_kind), (arI rC_parts kC_parts 18 fC_parts), (arI rC_partNodes kC_partNodes 72 fC_partNodes), (arI rC_weights kC_weights 72 fC_weights), (arI rC_weightSums kC_weightSums 18 fC_weightSums), (arI rC_unsureWords kC_unsureWords 4 fC_unsureWords), (arI rC_unsureWorths kC_unsureWorths 4 fC_unsureWorths), (arI rW kW 18 fW)] H → va_D A [(oc4 oL rL_values rL_supposed), (arI rL_values kL_values 18 fL_values), (arI rL_supposed kL_supposed 18 f_955), (oc1 oC iC_nodes iC_words iC_chances iC_unsures iC_slips iC_throneNode iC_saidWorth iC_unit rC_kind rC_parts rC_partNodes rC_weights rC_weightSums rC_toldWorths rC_steps rC_below rC_above rC_unsureWords rC_unsureWorths), (arI rC_kind kC_kind 18 fC_kind), (arI rC_parts kC_parts 18 fC_parts), (arI rC_partNodes kC_partNodes 72 fC_partNodes), (arI rC_weights kC_weights 72 fC_weights), (arI rC_weightSums kC_weightSums 18 fC_weightSums), (arI rC_unsureWords kC_unsureWords 4 fC_unsureWords), (arI rC_unsureWorths kC_unsureWorths 4 fC_unsureWorths), (arI rW kW 18 fW)] → va_S A s.heap H locs → lv_has ls 5 [(4, .int z_954), (0, .ref oL), (1, .ref oC), (2, .ref rW), (3, .int p0)] → W p l e (headSpec (Cond.code yX4_throneByUnsure cX4_throneByUnsure 5 (some .int) :: wG) ({ frames := 3, cells := 0, slots := 0, locals := 71 })).room s m ([.ref oL, .ref oC, .ref rW, .int p0] : List Value).toArray below meth c H locs 0 0 (MQ below (va_Qi (fun (r : Int32) (_ : Nat) => True ∧ True) (fun (_ : Nat) (t : State) => ∃ (nfL_values : Nat → Int32) (nfL_supposed : Nat → Int32), Bw dC dI A [(oc4 oL rL_values rL_supposed), (arI rL_values kL_values 18 nfL_values), (arI rL_supposed kL_supposed 18 nfL_supposed), (oc1 oC iC_nodes iC_words iC_chances iC_unsures iC_slips iC_throneNode iC_saidWorth iC_unit rC_kind rC_parts rC_partNodes rC_weights rC_weightSums rC_toldWorths rC_steps rC_below rC_above rC_unsureWords rC_unsureWorths), (arI rC_kind kC_kind 18 fC_kind), (arI rC_parts kC_parts 18 fC_parts), (arI rC_partNodes kC_partNodes 72 fC_partNodes), (arI rC_weights kC_weights 72 fC_weights), (arI rC_weightSums kC_weightSums 18 fC_weightSums), (arI rC_unsureWords kC_unsureWords 4 fC_unsureWords), (arI rC_unsureWorths kC_unsureWorths 4 fC_unsureWorths), (arI rW kW 18 fW)] [(kL_values, .int), (kL_supposed, .int), (kC_kind, .int), (kC_parts, .int), (kC_partNodes, .int), (kC_weights, .int), (kC_weightSums, .int), (kC_unsureWords, .int), (kC_unsureWorths, .int), (kW, .int)] t) A) ([.ref oL, .ref oC, .ref rW, .int p0] : List Value).toArray s 0 0 A) (F0 m 15 ls []) := by
    intro n_956
    induction n_956 with
    | zero => intro z_954 f_955 H locs ls hi0_n_956 hm; exact absurd hm (Nat.not_lt_zero _)
    | succ n_956 ih_n_956 =>
      intro z_954 f_955 H locs ls hi0_n_956 hm_n_956 hP hD hS hl
      have rg_z_954 := fb_rng z_954
      refine lv_iload hx hb dX4_throneByUnsure_15 (lv_at hl 0 rfl) ?_
      refine lv_aload_n hx hb dX4_throneByUnsure_17 rfl (lv_at hl 2 rfl) ?_
      refine va_get (D := (dC, dI)) (ci := 1) (v := .int iC_unsures) (C := RX1) (T := TX1) (N := 19) hx hb hts inX1 hown hK hP 3 rfl rfl 3 (by decide) (hts _ wd_1173) (fun _ h9 => h9) rfl dX4_throneByUnsure_18 ?_
      have rg_iC_unsures := fb_rng iC_unsures
      refine lv_icmp_ge (tgt := 59) hx hb dX4_throneByUnsure_21 (by decide) (fun c_957 => ?_) (fun c_957 => ?_)
      · skip
        have gc_957 := ti_le c_957 rfl rfl
        refine lv_aload_n hx hb dX4_throneByUnsure_59 rfl (lv_at hl 1 rfl) ?_
        refine lv_aload_n hx hb dX4_throneByUnsure_60 rfl (lv_at hl 2 rfl) ?_
        refine lv_aload_n hx hb dX4_throneByUnsure_61 rfl (lv_at hl 1 rfl) ?_
        refine va_get (D := (dC, dI)) (ci := 4) (v := .ref rL_supposed) (C := RX4) (T := TX4) (N := 2) hx hb hts inX4 hown hK hP 0 rfl rfl 1 (by decide) (hts _ wd_147) (fun _ h9 => h9) rfl dX4_throneByUnsure_62 ?_
        have hFc := va_free (wc := [(oc4 oL rL_values rL_supposed), (arI rL_values kL_values 18 fL_values), (oc1 oC iC_nodes iC_words iC_chances iC_unsures iC_slips iC_throneNode iC_saidWorth iC_unit rC_kind rC_parts rC_partNodes rC_weights rC_weightSums rC_toldWorths rC_steps rC_below rC_above rC_unsureWords rC_unsureWorths), (arI rC_kind kC_kind 18 fC_kind), (arI rC_parts kC_parts 18 fC_parts), (arI rC_partNodes kC_partNodes 72 fC_partNodes), (arI rC_weights kC_weights 72 fC_weights), (arI rC_weightSums kC_weightSums 18 fC_weightSums), (arI rL_supposed kL_supposed 18 f_955)]) hD hS hA [0, 1, 3, 4, 5, 6, 7, 8, 2] rfl
        refine va_calli (va_runV (As := [.ref oC, .ref rL_supposed]) (rest := []) ⟨hx, hb, hml, hown, hts⟩ (tX4_weighAll l dC dI _ oL rL_values fL_values kL_values rL_supposed oC iC_nodes iC_words iC_chances iC_unsures iC_slips iC_throneNode iC_saidWorth iC_unit rC_kind fC_kind kC_kind rC_parts fC_parts kC_parts rC_partNodes fC_partNodes kC_partNodes rC_weights fC_weights kC_weights rC_weightSums fC_weightSums kC_weightSums rC_toldWorths rC_steps rC_below rC_above rC_unsureWords rC_unsureWorths rL_supposed f_955 kL_supposed b_iC_nodes b_iC_unsures b_iC_throneNode a_fC_parts a_fC_partNodes) (cwV 2 hts (wd_V wd_949 wd_613 wd_614 wd_37 (wd_c wd_615)) rfl rfl rfl dv_yX4_weighAll_2 ⟨Nat.le_of_ble_eq_true rfl, Nat.le_of_ble_eq_true rfl⟩) ⟨Pw.fb, recvX4 hK hP (q0 := 0) rfl, fun U hU hW => Pw.to (hP.sub [0, 1, 3, 4, 5, 6, 7, 8, 2] rfl) (hD.sub [0, 1, 3, 4, 5, 6, 7, 8, 2] (by decide) rfl) (hK.sub [0, 2, 3, 4, 5, 6, 1] rfl) hE hS hFc hU hW⟩ rfl rfl hl.1 rfl (lv_room (Nat.le_of_ble_eq_true rfl)) dX4_throneByUnsure_65 ⟨Nat.le_of_ble_eq_true rfl, Nat.le_of_ble_eq_true rfl⟩) hS (fun q _ h => hFc q h) hFc (fun r u t H locs ht hvm hw hB hz1 hk1 hS => ?_)
        have hru9 := hw.2
        have hw := hw.1
        refine ex_1_1 hB (fun f_958 e_f_958_0 hB => ?_)
        obtain ⟨hP, hD, hK⟩ := Bw.go (ws' := [(arI rC_unsureWords kC_unsureWords 4 fC_unsureWords), (arI rC_unsureWorths kC_unsureWorths 4 fC_unsureWorths), (arI rW kW 18 fW), (oc4 oL rL_values rL_supposed), (arI rL_values kL_values 18 f_958), (oc1 oC iC_nodes iC_words iC_chances iC_unsures iC_slips iC_throneNode iC_saidWorth iC_unit rC_kind rC_parts rC_partNodes rC_weights rC_weightSums rC_toldWorths rC_steps rC_below rC_above rC_unsureWords rC_unsureWorths), (arI rC_kind kC_kind 18 fC_kind), (arI rC_parts kC_parts 18 fC_parts), (arI rC_partNodes kC_partNodes 72 fC_partNodes), (arI rC_weights kC_weights 72 fC_weights), (arI rC_weightSums kC_weightSums 18 fC_weightSums), (arI rL_supposed kL_supposed 18 f_955)]) (tys' := [(kC_unsureWords, .int), (kC_unsureWorths, .int), (kW, .int), (kL_values, .int), (kC_kind, .int), (kC_parts, .int), (kC_partNodes, .int), (kC_weights, .int), (kC_weightSums, .int), (kL_supposed, .int)]) hB rfl ht hvm hP hD hK [0, 1, 3, 4, 5, 6, 7, 8, 2] [9, 10, 11] rfl (by decide) (by decide) [7, 8, 9] hk1 hFc rfl rfl rfl
        clear hz1 hk1 hvm ht hB
        obtain ⟨x_959, rfl⟩ : ∃ z, z = r := ⟨_, rfl⟩
        have rg_x_959 := fb_rng x_959
        exact wq_i hx hb hr 0 ⟨trivial, trivial⟩ (fun t ht hW => ⟨f_958, f_955, Bw.to (hP.sub [3, 4, 11, 5, 6, 7, 8, 9, 10, 0, 1, 2] rfl) (hD.sub [3, 4, 11, 5, 6, 7, 8, 9, 10, 0, 1, 2] (by decide) rfl) (hK.sub [3, 9, 4, 5, 6, 7, 8, 0, 1, 2] rfl) ht hW⟩) hS dX4_throneByUnsure_68 hlocks
      · skip
        have gc_957 := ti_nle c_957 rfl rfl
        refine lv_iload_n hx hb dX4_throneByUnsure_24 rfl (lv_at hl 4 rfl) ?_
        refine lv_iload hx hb dX4_throneByUnsure_25 (lv_at hl 0 rfl) ?_
        refine lv_ishr hx hb dX4_throneByUnsure_27 ?_
        refine lv_topi (fun x_960 ex_960 => ?_)
        have rg_x_960 := fb_rng x_960
        refine lv_iconst (v := 1) hx hb dX4_throneByUnsure_28 (by decide) ?_
        refine lv_iand hx hb dX4_throneByUnsure_29 ?_
        refine lv_topi (fun x_961 ex_961 => ?_)
        have rg_x_961 := fb_rng x_961
        refine lv_iconst (v := 1) hx hb dX4_throneByUnsure_30 (by decide) ?_
        refine lv_icmp_ne (tgt := 53) hx hb dX4_throneByUnsure_31 (by decide) (fun c_962 => ?_) (fun c_962 => ?_)
        · skip
          have gc_962 := ti_ne c_962 rfl kc_1
          obtain ⟨x_963, ex_963⟩ : ∃ z : Int32, z = z_954 + Int32.ofInt 1 := ⟨_, rfl⟩
          have vx_963 : x_963.toInt = z_954.toInt + 1 := ti_add (y := 1) ex_963 rfl kc_1 (om_4e4fce7e hi0_n_956.1) (om_0ca29412 b_iC_unsures.2 gc_957)
          refine lv_iinc (v := x_963) (lv' := [(4, .int x_963), (0, .ref oL), (1, .ref oC), (2, .ref rW), (3, .int p0)]) hx hb dX4_throneByUnsure_53 hl (k := 0) rfl ex_963.symm (by decide) rfl (fun ls hl => ?_)
          refine lv_goto (tgt := 15) hx hb dX4_throneByUnsure_56 (by decide) ?_
          exact ih_n_956 x_963 f_955 _ _ _  ⟨(om_83b90de5 hi0_n_956.1 vx_963), (om_008057e4 b_iC_unsures.2 gc_957 vx_963)⟩ (ms_lt hm_n_956 (om_b9393183 vx_963) (om_349eab4e b_iC_unsures.2 gc_957)) hP hD hS (lv_sub hl [0, 1, 2, 3, 4] rfl)
        · skip
          have gc_962 := ti_eq c_962 rfl kc_1
          refine lv_aload_n hx hb dX4_throneByUnsure_34 rfl (lv_at hl 1 rfl) ?_
          refine va_get (D := (dC, dI)) (ci := 4) (v := .ref rL_supposed) (C := RX4) (T := TX4) (N := 2) hx hb hts inX4 hown hK hP 0 rfl rfl 1 (by decide) (hts _ wd_147) (fun _ h9 => h9) rfl dX4_throneByUnsure_35 ?_
          refine lv_aload_n hx hb dX4_throneByUnsure_38 rfl (lv_at hl 2 rfl) ?_
          refine va_get (D := (dC, dI)) (ci := 1) (v := .ref rC_unsureWords) (C := RX1) (T := TX1) (N := 19) hx hb hts inX1 hown hK hP 3 rfl rfl 17 (by decide) (hts _ wd_1174) (fun _ h9 => h9) rfl dX4_throneByUnsure_39 ?_
          refine lv_iload hx hb dX4_throneByUnsure_42 (lv_at hl 0 rfl) ?_
          refine va_iald hx hb hK hP 9 7 rfl rfl (ti_in rfl hi0_n_956.1 (om_2470ff38 b_iC_unsures.2 gc_957)) dX4_throneByUnsure_44 ?_
          refine lv_topi (fun x_964 ex_964 => ?_)
          have rg_x_964 := fb_rng x_964
          have kx_964 : (fC_unsureWords z_954.toNatClampNeg).toInt = x_964.toInt := by rw [ex_964]
          have ux_964 := a_fC_unsureWords z_954.toNatClampNeg (cl_lt rfl hi0_n_956.1 (om_2470ff38 b_iC_unsures.2 gc_957))
          rw [show fC_unsureWords z_954.toNatClampNeg = x_964 from ex_964.symm] at ux_964
          refine lv_aload_n hx hb dX4_throneByUnsure_45 rfl (lv_at hl 2 rfl) ?_
          refine va_get (D := (dC, dI)) (ci := 1) (v := .ref rC_unsureWorths) (C := RX1) (T := TX1) (N := 19) hx hb hts inX1 hown hK hP 3 rfl rfl 18 (by decide) (hts _ wd_1175) (fun _ h9 => h9) rfl dX4_throneByUnsure_46 ?_
          refine lv_iload hx hb dX4_throneByUnsure_49 (lv_at hl 0 rfl) ?_
          refine va_iald hx hb hK hP 10 8 rfl rfl (ti_in rfl hi0_n_956.1 (om_2470ff38 b_iC_unsures.2 gc_957)) dX4_throneByUnsure_51 ?_
          refine lv_topi (fun x_965 ex_965 => ?_)
          have rg_x_965 := fb_rng x_965
          have kx_965 : (fC_unsureWorths z_954.toNatClampNeg).toInt = x_965.toInt := by rw [ex_965]
          refine vz_iast hx hb hK hP hD hS 2 1 rfl rfl (ti_in rfl ux_964.1 (om_b3735a34 ux_964.2)) dX4_throneByUnsure_52 (fun H locs f_966 hP hD hS => ?_)
          obtain ⟨hP, hD⟩ := wl2 (ws' := [(oc4 oL rL_values rL_supposed), (arI rL_values kL_values 18 fL_values), (arI rL_supposed kL_supposed 18 f_966), (oc1 oC iC_nodes iC_words iC_chances iC_unsures iC_slips iC_throneNode iC_saidWorth iC_unit rC_kind rC_parts rC_partNodes rC_weights rC_weightSums rC_toldWorths rC_steps rC_below rC_above rC_unsureWords rC_unsureWorths), (arI rC_kind kC_kind 18 fC_kind), (arI rC_parts kC_parts 18 fC_parts), (arI rC_partNodes kC_partNodes 72 fC_partNodes), (arI rC_weights kC_weights 72 fC_weights), (arI rC_weightSums kC_weightSums 18 fC_weightSums), (arI rC_unsureWords kC_unsureWords 4 fC_unsureWords), (arI rC_unsureWorths kC_unsureWorths 4 fC_unsureWorths), (arI rW kW 18 fW)]) hP hD rfl
          obtain ⟨x_967, ex_967⟩ : ∃ z : Int32, z = z_954 + Int32.ofInt 1 := ⟨_, rfl⟩
          have vx_967 : x_967.toInt = z_954.toInt + 1 := ti_add (y := 1) ex_967 rfl kc_1 (om_4e4fce7e hi0_n_956.1) (om_0ca29412 b_iC_unsures.2 gc_957)
          refine lv_iinc (v := x_967) (lv' := [(4, .int x_967), (0, .ref oL), (1, .ref oC), (2, .ref rW), (3, .int p0)]) hx hb dX4_throneByUnsure_53 hl (k := 0) rfl ex_967.symm (by decide) rfl (fun ls hl => ?_)
          refine lv_goto (tgt := 15) hx hb dX4_throneByUnsure_56 (by decide) ?_
          exact ih_n_956 x_967 f_966 _ _ _  ⟨(om_83b90de5 hi0_n_956.1 vx_967), (om_008057e4 b_iC_unsures.2 gc_957 vx_967)⟩ (ms_lt hm_n_956 (om_b9393183 vx_967) (om_349eab4e b_iC_unsures.2 gc_957)) hP hD hS (lv_sub hl [0, 1, 2, 3, 4] rfl)
  exact key_n_956 (((2147483647 - (0 : Int32).toInt).toNat) + 1) 0 f_953 _ _ _  ⟨(om_b1de7dbe kc_0), (om_daf17c64 kc_0)⟩ (Nat.lt_add_one _) hP hD hS hl
set_option maxHeartbeats 4000000 in
set_option maxRecDepth 100000 in
theorem tX4_waysDown (l : Launch) (dC : Nat → ClassId) (dI : Nat → Nat → Nat) (sz : Nat) (oL : Nat) (rL_values : Nat) (fL_values : Nat → Int32) (kL_values : ClassId) (rL_supposed : Nat) (oC : Nat) (iC_nodes : Int32) (iC_words : Int32) (iC_chances : Int32) (iC_unsures : Int32) (iC_slips : Int32) (iC_throneNode : Int32) (iC_saidWorth : Int32) (iC_unit : Int32) (rC_kind : Nat) (fC_kind : Nat → Int32) (kC_kind : ClassId) (rC_parts : Nat) (fC_parts : Nat → Int32) (kC_parts : ClassId) (rC_partNodes : Nat) (fC_partNodes : Nat → Int32) (kC_partNodes : ClassId) (rC_weights : Nat) (rC_weightSums : Nat) (rC_toldWorths : Nat) (rC_steps : Nat) (rC_below : Nat) (rC_above : Nat) (rC_unsureWords : Nat) (rC_unsureWorths : Nat) (b_iC_nodes : 0 ≤ iC_nodes.toInt ∧ iC_nodes.toInt ≤ 18) (b_iC_unsures : 0 ≤ iC_unsures.toInt ∧ iC_unsures.toInt ≤ 4) (b_iC_throneNode : (-1) ≤ iC_throneNode.toInt ∧ iC_throneNode.toInt ≤ 17) (a_fC_parts : ∀ j : Nat, j < 18 → 0 ≤ (fC_parts j).toInt ∧ (fC_parts j).toInt ≤ 4) (a_fC_partNodes : ∀ j : Nat, j < 72 → 0 ≤ (fC_partNodes j).toInt ∧ (fC_partNodes j).toInt ≤ 17)  : Met l yX4_waysDown (Cond.code yX4_waysDown cX4_waysDown 4 (some .int) :: wG) ({ frames := 2, cells := 0, slots := 0, locals := 42 }) (va_Pc [.ref oL, .ref oC] (Pw dC dI sz [(oc4 oL rL_values rL_supposed), (arI rL_values kL_values 18 fL_values), (oc1 oC iC_nodes iC_words iC_chances iC_unsures iC_slips iC_throneNode iC_saidWorth iC_unit rC_kind rC_parts rC_partNodes rC_weights rC_weightSums rC_toldWorths rC_steps rC_below rC_above rC_unsureWords rC_unsureWorths), (arI rC_kind kC_kind 18 fC_kind), (arI rC_parts kC_parts 18 fC_parts), (arI rC_partNodes kC_partNodes 72 fC_partNodes)] [(kL_values, .int), (kC_kind, .int), (kC_parts, .int), (kC_partNodes, .int)])) (va_Qi (fun (r : Int32) (u : Nat) => (True ∧ True) ∧ r = Int32.ofNat u) (fun (u : Nat) (t : State) => ∃ (nfL_values : Nat → Int32), (PX4_waysDown fL_values iC_nodes iC_throneNode fC_kind fC_parts fC_partNodes = (Int32.ofNat u, nfL_values)) ∧ Bw dC dI (va_A [(oc4 oL rL_values rL_supposed), (arI rL_values kL_values 18 fL_values), (oc1 oC iC_nodes iC_words iC_chances iC_unsures iC_slips iC_throneNode iC_saidWorth iC_unit rC_kind rC_parts rC_partNodes rC_weights rC_weightSums rC_toldWorths rC_steps rC_below rC_above rC_unsureWords rC_unsureWorths), (arI rC_kind kC_kind 18 fC_kind), (arI rC_parts kC_parts 18 fC_parts), (arI rC_partNodes kC_partNodes 72 fC_partNodes)] sz) [(oc4 oL rL_values rL_supposed), (arI rL_values kL_values 18 nfL_values), (oc1 oC iC_nodes iC_words iC_chances iC_unsures iC_slips iC_throneNode iC_saidWorth iC_unit rC_kind rC_parts rC_partNodes rC_weights rC_weightSums rC_toldWorths rC_steps rC_below rC_above rC_unsureWords rC_unsureWorths), (arI rC_kind kC_kind 18 fC_kind), (arI rC_parts kC_parts 18 fC_parts), (arI rC_partNodes kC_partNodes 72 fC_partNodes)] [(kL_values, .int), (kC_kind, .int), (kC_parts, .int), (kC_partNodes, .int)] t) (va_A [(oc4 oL rL_values rL_supposed), (arI rL_values kL_values 18 fL_values), (oc1 oC iC_nodes iC_words iC_chances iC_unsures iC_slips iC_throneNode iC_saidWorth iC_unit rC_kind rC_parts rC_partNodes rC_weights rC_weightSums rC_toldWorths rC_steps rC_below rC_above rC_unsureWords rC_unsureWorths), (arI rC_kind kC_kind 18 fC_kind), (arI rC_parts kC_parts 18 fC_parts), (arI rC_partNodes kC_partNodes 72 fC_partNodes)] sz)) 0 0 (va_A [(oc4 oL rL_values rL_supposed), (arI rL_values kL_values 18 fL_values), (oc1 oC iC_nodes iC_words iC_chances iC_unsures iC_slips iC_throneNode iC_saidWorth iC_unit rC_kind rC_parts rC_partNodes rC_weights rC_weightSums rC_toldWorths rC_steps rC_below rC_above rC_unsureWords rC_unsureWorths), (arI rC_kind kC_kind 18 fC_kind), (arI rC_parts kC_parts 18 fC_parts), (arI rC_partNodes kC_partNodes 72 fC_partNodes)] sz) := by
  refine Met.ofW (cc := cX4_waysDown) (maxL := 4) (ret := (some .int)) pnX4 rfl ?_
  intro p e s m args below meth c s₁ B hml hv
  obtain ⟨rfl, hsz, hP, hK, hD0, hE⟩ := hv
  have hx := B.exec
  have hb := B.bytes
  have hr := B.returns
  have hts : ∀ w ∈ wG, w.before ([.ref oL, .ref oC] : List Value).toArray s = true := fun w h => atoms_spec (ws := Cond.code yX4_waysDown cX4_waysDown 4 (some .int) :: wG) B.pre w (List.mem_cons_of_mem _ h)
  have hown : s.vm.findClass RX4 = some m.cls := own_of B.named rfl
  have hlocks := B.notSynchronized
  subst hsz
  have hD := hD0.self (sz := s.heap.size)
  generalize hAe : va_A [(oc4 oL rL_values rL_supposed), (arI rL_values kL_values 18 fL_values), (oc1 oC iC_nodes iC_words iC_chances iC_unsures iC_slips iC_throneNode iC_saidWorth iC_unit rC_kind rC_parts rC_partNodes rC_weights rC_weightSums rC_toldWorths rC_steps rC_below rC_above rC_unsureWords rC_unsureWorths), (arI rC_kind kC_kind 18 fC_kind), (arI rC_parts kC_parts 18 fC_parts), (arI rC_partNodes kC_partNodes 72 fC_partNodes)] s.heap.size = A at hD hE ⊢
  have hA : ∀ q : Nat, s.heap.size ≤ q → A q := fun q h => by rw [← hAe]; exact Or.inr h
  have hS : va_S A s.heap s.heap [] := va_S.rf
  have hl := lv_entry ([.ref oL, .ref oC]) (n := 4) (Nat.le_of_ble_eq_true rfl)
  rw [lg_entry_eq]
  generalize (lg_sl ([.ref oL, .ref oC]) ++ List.replicate (4 - (lg_sl ([.ref oL, .ref oC])).length) Slot.unset).toArray = ls at hl ⊢
  have hl : lv_has ls 4 [(0, .ref oL), (1, .ref oC)] := hl
  have hG := PX4_waysDown_eq fL_values iC_nodes iC_throneNode fC_kind fC_parts fC_partNodes
  refine lv_iconst (v := 0) hx hb dX4_waysDown_0 (by decide) ?_
  refine lv_istore_n (lv' := [(2, .int 0), (0, .ref oL), (1, .ref oC)]) hx hb dX4_waysDown_1 rfl hl (by decide) rfl (fun ls hl => ?_)
  have hl := lv_sub hl (l' := [(2, .int 0), (0, .ref oL), (1, .ref oC)]) [0, 1, 2] rfl
  have key_n_1040 : ∀ (n_1040 : Nat) (z_1038 : Int32) (f_1039 : Nat → Int32) (H : Heap) (locs : List Loc) (ls : Array Slot), (0 ≤ z_1038.toInt ∧ z_1038.toInt ≤ 2147483647) → (2147483647 - z_1038.toInt).toNat < n_1040 → (PX4_waysDown fL_values iC_nodes iC_throneNode fC_kind fC_parts fC_partNodes = HX4_waysDown_0 iC_nodes iC_throneNode fC_kind fC_parts fC_partNodes n_1040 z_1038 f_1039) → va_P (dC, dI) vwCl [(oc4 oL rL_values rL_supposed), (arI rL_values kL_values 18 f_1039), (oc1 oC iC_nodes iC_words iC_chances iC_unsures iC_slips iC_throneNode iC_saidWorth iC_unit rC_kind rC_parts rC_partNodes rC_weights rC_weightSums rC_toldWorths rC_steps rC_below rC_above rC_unsureWords rC_unsureWorths), (arI rC_kind kC_kind 18 fC_kind), (arI rC_parts kC_parts 18 fC_parts), (arI rC_partNodes kC_partNodes 72 fC_partNodes)] H → va_D A [(oc4 oL rL_values rL_supposed), (arI rL_values kL_values 18 f_1039), (oc1 oC iC_nodes iC_words iC_chances iC_unsures iC_slips iC_throneNode iC_saidWorth iC_unit rC_kind rC_parts rC_partNodes rC_weights rC_weightSums rC_toldWorths rC_steps rC_below rC_above rC_unsureWords rC_unsureWorths), (arI rC_kind kC_kind 18 fC_kind), (arI rC_parts kC_parts 18 fC_parts), (arI rC_partNodes kC_partNodes 72 fC_partNodes)] → va_S A s.heap H locs → lv_has ls 4 [(2, .int z_1038), (0, .ref oL), (1, .ref oC)] → W p l e (headSpec (Cond.code yX4_waysDown cX4_waysDown 4 (some .int) :: wG) ({ frames := 2, cells := 0, slots := 0, locals := 42 })).room s m ([.ref oL, .ref oC] : List Value).toArray below meth c H locs 0 0 (MQ below (va_Qi (fun (r : Int32) (u : Nat) => (True ∧ True) ∧ r = Int32.ofNat u) (fun (u : Nat) (t : State) => ∃ (nfL_values : Nat → Int32), (PX4_waysDown fL_values iC_nodes iC_throneNode fC_kind fC_parts fC_partNodes = (Int32.ofNat u, nfL_values)) ∧ Bw dC dI A [(oc4 oL rL_values rL_supposed), (arI rL_values kL_values 18 nfL_values), (oc1 oC iC_nodes iC_words iC_chances iC_unsures iC_slips iC_throneNode iC_saidWorth iC_unit rC_kind rC_parts rC_partNodes rC_weights rC_weightSums rC_toldWorths rC_steps rC_below rC_above rC_unsureWords rC_unsureWorths), (arI rC_kind kC_kind 18 fC_kind), (arI rC_parts kC_parts 18 fC_parts), (arI rC_partNodes kC_partNodes 72 fC_partNodes)] [(kL_values, .int), (kC_kind, .int), (kC_parts, .int), (kC_partNodes, .int)] t) A) ([.ref oL, .ref oC] : List Value).toArray s 0 0 A) (F0 m 2 ls []) := by
    intro n_1040
    induction n_1040 with
    | zero => intro z_1038 f_1039 H locs ls hi0_n_1040 hm; exact absurd hm (Nat.not_lt_zero _)
    | succ n_1040 ih_n_1040 =>
      intro z_1038 f_1039 H locs ls hi0_n_1040 hm_n_1040 hG hP hD hS hl
      have hG := hG.trans (HX4_waysDown_0_eq _ _ _ _ _ _ _ _)
      have rg_z_1038 := fb_rng z_1038
      refine lv_iload_n hx hb dX4_waysDown_2 rfl (lv_at hl 0 rfl) ?_
      refine lv_aload_n hx hb dX4_waysDown_3 rfl (lv_at hl 2 rfl) ?_
      refine va_get (D := (dC, dI)) (ci := 1) (v := .int iC_nodes) (C := RX1) (T := TX1) (N := 19) hx hb hts inX1 hown hK hP 2 rfl rfl 0 (by decide) (hts _ wd_616) (fun _ h9 => h9) rfl dX4_waysDown_4 ?_
      have rg_iC_nodes := fb_rng iC_nodes
      refine lv_icmp_ge (tgt := 78) hx hb dX4_waysDown_7 (by decide) (fun c_1041 => ?_) (fun c_1041 => ?_)
      · skip
        have hG := hG.trans (if_pos c_1041)
        have gc_1041 := ti_le c_1041 rfl rfl
        refine lv_aload_n hx hb dX4_waysDown_78 rfl (lv_at hl 1 rfl) ?_
        refine lv_aload_n hx hb dX4_waysDown_79 rfl (lv_at hl 2 rfl) ?_
        have hMs := ml_of hD [true, true, true, false, false, false] (wc := [(oc4 oL rL_values rL_supposed), (arI rL_values kL_values 18 f_1039), (oc1 oC iC_nodes iC_words iC_chances iC_unsures iC_slips iC_throneNode iC_saidWorth iC_unit rC_kind rC_parts rC_partNodes rC_weights rC_weightSums rC_toldWorths rC_steps rC_below rC_above rC_unsureWords rC_unsureWorths)]) rfl
        have hFc := va_freeM hD hS hA _ hMs
        refine va_calli (va_runV (As := [.ref oC]) (rest := []) ⟨hx, hb, hml, hown, hts⟩ (tX4_throneValue l dC dI _ oL rL_values f_1039 kL_values rL_supposed oC iC_nodes iC_words iC_chances iC_unsures iC_slips iC_throneNode iC_saidWorth iC_unit rC_kind rC_parts rC_partNodes rC_weights rC_weightSums rC_toldWorths rC_steps rC_below rC_above rC_unsureWords rC_unsureWorths b_iC_nodes b_iC_unsures b_iC_throneNode) (cwV 1 hts (wd_V wd_629 wd_630 wd_631 wd_37 (wd_c wd_632)) rfl rfl rfl dv_yX4_throneValue_1 ⟨Nat.le_of_ble_eq_true rfl, Nat.le_of_ble_eq_true rfl⟩) ⟨Pw.fb, recvX4 hK hP (q0 := 0) rfl, fun U hU hW => Pw.to (hP.ms _ hMs) (hD.ms _ hMs) (hK.ms [true, false, false, false] rfl) hE hS hFc hU hW⟩ rfl rfl hl.1 rfl (lv_room (Nat.le_of_ble_eq_true rfl)) dX4_waysDown_80 ⟨Nat.le_of_ble_eq_true rfl, Nat.le_of_ble_eq_true rfl⟩) hS (fun q _ h => hFc q h) hFc (fun r u t H locs ht hvm hw hB hz1 hk1 hS => ?_)
        have hru9 := hw.2
        have hw := hw.1
        obtain ⟨hP, hD⟩ := Bw.goN (ws' := [(oc4 oL rL_values rL_supposed), (arI rL_values kL_values 18 f_1039), (oc1 oC iC_nodes iC_words iC_chances iC_unsures iC_slips iC_throneNode iC_saidWorth iC_unit rC_kind rC_parts rC_partNodes rC_weights rC_weightSums rC_toldWorths rC_steps rC_below rC_above rC_unsureWords rC_unsureWorths), (arI rC_kind kC_kind 18 fC_kind), (arI rC_parts kC_parts 18 fC_parts), (arI rC_partNodes kC_partNodes 72 fC_partNodes)]) hB rfl ht hP hD _ hMs hk1 hFc rfl
        clear hz1 hk1 hvm ht hB hMs
        obtain ⟨x_1042, rfl⟩ : ∃ z, z = r := ⟨_, rfl⟩
        have hG := hG.trans (lt_eq hru9.symm)
        have rg_x_1042 := fb_rng x_1042
        exact wq_i hx hb hr (cI x_1042) ⟨⟨trivial, trivial⟩, (cI_of x_1042)⟩ (fun t ht hW => ⟨f_1039, (cI_tup hG), Bw.to hP hD hK ht hW⟩) hS dX4_waysDown_83 hlocks
      · skip
        have hG := hG.trans (if_neg c_1041)
        have gc_1041 := ti_nle c_1041 rfl rfl
        refine lv_aload_n hx hb dX4_waysDown_10 rfl (lv_at hl 1 rfl) ?_
        refine va_get (D := (dC, dI)) (ci := 4) (v := .ref rL_values) (C := RX4) (T := TX4) (N := 2) hx hb hts inX4 hown hK hP 0 rfl rfl 0 (by decide) (hts _ wd_146) (fun _ h9 => h9) rfl dX4_waysDown_11 ?_
        refine lv_iload_n hx hb dX4_waysDown_14 rfl (lv_at hl 0 rfl) ?_
        refine lv_aload_n hx hb dX4_waysDown_15 rfl (lv_at hl 2 rfl) ?_
        refine va_get (D := (dC, dI)) (ci := 1) (v := .ref rC_kind) (C := RX1) (T := TX1) (N := 19) hx hb hts inX1 hown hK hP 2 rfl rfl 8 (by decide) (hts _ wd_617) (fun _ h9 => h9) rfl dX4_waysDown_16 ?_
        refine lv_iload_n hx hb dX4_waysDown_19 rfl (lv_at hl 0 rfl) ?_
        refine va_iald hx hb hK hP 3 1 rfl rfl (ti_in rfl hi0_n_1040.1 (om_97cd4a7c b_iC_nodes.2 gc_1041)) dX4_waysDown_20 ?_
        refine lv_topi (fun x_1043 ex_1043 => ?_)
        have hG := hG.trans (lt_eq ex_1043)
        have rg_x_1043 := fb_rng x_1043
        have kx_1043 : (fC_kind z_1038.toNatClampNeg).toInt = x_1043.toInt := by rw [ex_1043]
        refine lv_if_ne (tgt := 28) hx hb dX4_waysDown_21 (by decide) (fun c_1044 => ?_) (fun c_1044 => ?_)
        · skip
          have hG := hG.trans (if_neg c_1044)
          have gc_1044 := ti_ne c_1044 rfl kc_0
          refine lv_iconst (v := 0) hx hb dX4_waysDown_28 (by decide) ?_
          refine va_iast hx hb hK hP hD hS 1 0 rfl rfl (ti_in rfl hi0_n_1040.1 (om_97cd4a7c b_iC_nodes.2 gc_1041)) dX4_waysDown_29 (fun H locs hP hD hS => ?_)
          obtain ⟨f_1046, ef_1046⟩ : ∃ g : Nat → Int32, g = upd f_1039 z_1038.toNatClampNeg (0 : Int32) := ⟨_, rfl⟩
          rw [← ef_1046] at hP hD
          have hG := hG.trans (lt_eq ef_1046)
          obtain ⟨hP, hD⟩ := wl2 (ws' := [(oc4 oL rL_values rL_supposed), (arI rL_values kL_values 18 f_1046), (oc1 oC iC_nodes iC_words iC_chances iC_unsures iC_slips iC_throneNode iC_saidWorth iC_unit rC_kind rC_parts rC_partNodes rC_weights rC_weightSums rC_toldWorths rC_steps rC_below rC_above rC_unsureWords rC_unsureWorths), (arI rC_kind kC_kind 18 fC_kind), (arI rC_parts kC_parts 18 fC_parts), (arI rC_partNodes kC_partNodes 72 fC_partNodes)]) hP hD rfl
          refine lv_iconst (v := 0) hx hb dX4_waysDown_30 (by decide) ?_
          refine lv_istore_n (lv' := [(3, .int 0), (2, .int z_1038), (0, .ref oL), (1, .ref oC)]) hx hb dX4_waysDown_31 rfl hl (by decide) rfl (fun ls hl => ?_)
          have hl := lv_sub hl (l' := [(3, .int 0), (2, .int z_1038), (0, .ref oL), (1, .ref oC)]) [0, 1, 2, 3] rfl
          have key_n_1049 : ∀ (n_1049 : Nat) (z_1047 : Int32) (f_1048 : Nat → Int32) (H : Heap) (locs : List Loc) (ls : Array Slot), (0 ≤ z_1047.toInt ∧ z_1047.toInt ≤ 2147483647) → (2147483647 - z_1047.toInt).toNat < n_1049 → (PX4_waysDown fL_values iC_nodes iC_throneNode fC_kind fC_parts fC_partNodes = HX4_waysDown_1 fC_parts fC_partNodes z_1038 (fun (z_1038 : Int32) (f_1039 : Nat → Int32) => HX4_waysDown_0 iC_nodes iC_throneNode fC_kind fC_parts fC_partNodes n_1040 z_1038 f_1039) n_1049 z_1047 f_1048) → va_P (dC, dI) vwCl [(oc4 oL rL_values rL_supposed), (arI rL_values kL_values 18 f_1048), (oc1 oC iC_nodes iC_words iC_chances iC_unsures iC_slips iC_throneNode iC_saidWorth iC_unit rC_kind rC_parts rC_partNodes rC_weights rC_weightSums rC_toldWorths rC_steps rC_below rC_above rC_unsureWords rC_unsureWorths), (arI rC_kind kC_kind 18 fC_kind), (arI rC_parts kC_parts 18 fC_parts), (arI rC_partNodes kC_partNodes 72 fC_partNodes)] H → va_D A [(oc4 oL rL_values rL_supposed), (arI rL_values kL_values 18 f_1048), (oc1 oC iC_nodes iC_words iC_chances iC_unsures iC_slips iC_throneNode iC_saidWorth iC_unit rC_kind rC_parts rC_partNodes rC_weights rC_weightSums rC_toldWorths rC_steps rC_below rC_above rC_unsureWords rC_unsureWorths), (arI rC_kind kC_kind 18 fC_kind), (arI rC_parts kC_parts 18 fC_parts), (arI rC_partNodes kC_partNodes 72 fC_partNodes)] → va_S A s.heap H locs → lv_has ls 4 [(3, .int z_1047), (2, .int z_1038), (0, .ref oL), (1, .ref oC)] → W p l e (headSpec (Cond.code yX4_waysDown cX4_waysDown 4 (some .int) :: wG) ({ frames := 2, cells := 0, slots := 0, locals := 42 })).room s m ([.ref oL, .ref oC] : List Value).toArray below meth c H locs 0 0 (MQ below (va_Qi (fun (r : Int32) (u : Nat) => (True ∧ True) ∧ r = Int32.ofNat u) (fun (u : Nat) (t : State) => ∃ (nfL_values : Nat → Int32), (PX4_waysDown fL_values iC_nodes iC_throneNode fC_kind fC_parts fC_partNodes = (Int32.ofNat u, nfL_values)) ∧ Bw dC dI A [(oc4 oL rL_values rL_supposed), (arI rL_values kL_values 18 nfL_values), (oc1 oC iC_nodes iC_words iC_chances iC_unsures iC_slips iC_throneNode iC_saidWorth iC_unit rC_kind rC_parts rC_partNodes rC_weights rC_weightSums rC_toldWorths rC_steps rC_below rC_above rC_unsureWords rC_unsureWorths), (arI rC_kind kC_kind 18 fC_kind), (arI rC_parts kC_parts 18 fC_parts), (arI rC_partNodes kC_partNodes 72 fC_partNodes)] [(kL_values, .int), (kC_kind, .int), (kC_parts, .int), (kC_partNodes, .int)] t) A) ([.ref oL, .ref oC] : List Value).toArray s 0 0 A) (F0 m 32 ls []) := by
            intro n_1049
            induction n_1049 with
            | zero => intro z_1047 f_1048 H locs ls hi0_n_1049 hm; exact absurd hm (Nat.not_lt_zero _)
            | succ n_1049 ih_n_1049 =>
              intro z_1047 f_1048 H locs ls hi0_n_1049 hm_n_1049 hG hP hD hS hl
              have hG := hG.trans (HX4_waysDown_1_eq _ _ _ _ _ _ _)
              have rg_z_1047 := fb_rng z_1047
              refine lv_iload_n hx hb dX4_waysDown_32 rfl (lv_at hl 0 rfl) ?_
              refine lv_aload_n hx hb dX4_waysDown_33 rfl (lv_at hl 3 rfl) ?_
              refine va_get (D := (dC, dI)) (ci := 1) (v := .ref rC_parts) (C := RX1) (T := TX1) (N := 19) hx hb hts inX1 hown hK hP 2 rfl rfl 9 (by decide) (hts _ wd_623) (fun _ h9 => h9) rfl dX4_waysDown_34 ?_
              refine lv_iload_n hx hb dX4_waysDown_37 rfl (lv_at hl 1 rfl) ?_
              refine va_iald hx hb hK hP 4 2 rfl rfl (ti_in rfl hi0_n_1040.1 (om_97cd4a7c b_iC_nodes.2 gc_1041)) dX4_waysDown_38 ?_
              refine lv_topi (fun x_1050 ex_1050 => ?_)
              have hG := hG.trans (lt_eq ex_1050)
              have rg_x_1050 := fb_rng x_1050
              have kx_1050 : (fC_parts z_1038.toNatClampNeg).toInt = x_1050.toInt := by rw [ex_1050]
              have ux_1050 := a_fC_parts z_1038.toNatClampNeg (cl_lt rfl hi0_n_1040.1 (om_97cd4a7c b_iC_nodes.2 gc_1041))
              rw [show fC_parts z_1038.toNatClampNeg = x_1050 from ex_1050.symm] at ux_1050
              refine lv_icmp_ge (tgt := 72) hx hb dX4_waysDown_39 (by decide) (fun c_1051 => ?_) (fun c_1051 => ?_)
              · skip
                have hG := hG.trans (if_pos c_1051)
                have gc_1051 := ti_le c_1051 rfl rfl
                obtain ⟨x_1052, ex_1052⟩ : ∃ z : Int32, z = z_1038 + Int32.ofInt 1 := ⟨_, rfl⟩
                have hG := hG.trans (lt_eq ex_1052)
                have vx_1052 : x_1052.toInt = z_1038.toInt + 1 := ti_add (y := 1) ex_1052 rfl kc_1 (om_4e4fce7e hi0_n_1040.1) (om_a32d6481 b_iC_nodes.2 gc_1041)
                refine lv_iinc (v := x_1052) (lv' := [(2, .int x_1052), (3, .int z_1047), (0, .ref oL), (1, .ref oC)]) hx hb dX4_waysDown_72 hl (k := 1) rfl ex_1052.symm (by decide) rfl (fun ls hl => ?_)
                refine lv_goto (tgt := 2) hx hb dX4_waysDown_75 (by decide) ?_
                exact ih_n_1040 x_1052 f_1048 _ _ _  ⟨(om_83b90de5 hi0_n_1040.1 vx_1052), (om_ed8867da b_iC_nodes.2 gc_1041 vx_1052)⟩ (ms_lt hm_n_1040 (om_b9393183 vx_1052) (om_1d9fa7fb b_iC_nodes.2 gc_1041)) hG hP hD hS (lv_sub hl [0, 2, 3] rfl)
              · skip
                have hG := hG.trans (if_neg c_1051)
                have gc_1051 := ti_nle c_1051 rfl rfl
                refine lv_aload_n hx hb dX4_waysDown_42 rfl (lv_at hl 2 rfl) ?_
                refine va_get (D := (dC, dI)) (ci := 4) (v := .ref rL_values) (C := RX4) (T := TX4) (N := 2) hx hb hts inX4 hown hK hP 0 rfl rfl 0 (by decide) (hts _ wd_146) (fun _ h9 => h9) rfl dX4_waysDown_43 ?_
                refine lv_iload_n hx hb dX4_waysDown_46 rfl (lv_at hl 1 rfl) ?_
                refine lv_dup2_11 hx hb dX4_waysDown_47 rfl rfl ?_
                refine va_iald hx hb hK hP 1 0 rfl rfl (ti_in rfl hi0_n_1040.1 (om_97cd4a7c b_iC_nodes.2 gc_1041)) dX4_waysDown_48 ?_
                refine lv_topi (fun x_1053 ex_1053 => ?_)
                have hG := hG.trans (lt_eq ex_1053)
                have rg_x_1053 := fb_rng x_1053
                have kx_1053 : (f_1048 z_1038.toNatClampNeg).toInt = x_1053.toInt := by rw [ex_1053]
                refine lv_aload_n hx hb dX4_waysDown_49 rfl (lv_at hl 2 rfl) ?_
                refine va_get (D := (dC, dI)) (ci := 4) (v := .ref rL_values) (C := RX4) (T := TX4) (N := 2) hx hb hts inX4 hown hK hP 0 rfl rfl 0 (by decide) (hts _ wd_146) (fun _ h9 => h9) rfl dX4_waysDown_50 ?_
                refine lv_aload_n hx hb dX4_waysDown_53 rfl (lv_at hl 3 rfl) ?_
                refine va_get (D := (dC, dI)) (ci := 1) (v := .ref rC_partNodes) (C := RX1) (T := TX1) (N := 19) hx hb hts inX1 hown hK hP 2 rfl rfl 10 (by decide) (hts _ wd_624) (fun _ h9 => h9) rfl dX4_waysDown_54 ?_
                refine lv_iload_n hx hb dX4_waysDown_57 rfl (lv_at hl 1 rfl) ?_
                refine lv_iconst (v := 4) hx hb dX4_waysDown_58 (by decide) ?_
                refine lv_imul hx hb dX4_waysDown_59 ?_
                refine lv_topi (fun x_1054 ex_1054 => ?_)
                have hG := hG.trans (lt_eq ex_1054)
                have vx_1054 : x_1054.toInt = 4 * z_1038.toInt := by have q := ti_mul ex_1054 rfl kc_4 (by omega) (by omega); omega
                refine lv_iload_n hx hb dX4_waysDown_60 rfl (lv_at hl 0 rfl) ?_
                refine lv_iadd hx hb dX4_waysDown_61 ?_
                refine lv_topi (fun x_1055 ex_1055 => ?_)
                have hG := hG.trans (lt_eq ex_1055)
                have vx_1055 : x_1055.toInt = 4 * z_1038.toInt + z_1047.toInt := om_5d0caf0f (ti_add ex_1055 vx_1054 rfl (om_056a216f hi0_n_1040.1 hi0_n_1049.1) (om_ba7cfd31 b_iC_nodes.2 gc_1041 ux_1050.2 gc_1051))
                refine va_iald hx hb hK hP 5 3 rfl rfl (ti_in vx_1055 (om_fc2812d4 hi0_n_1040.1 hi0_n_1049.1) (om_e20cec48 b_iC_nodes.2 gc_1041 ux_1050.2 gc_1051)) dX4_waysDown_62 ?_
                refine lv_topi (fun x_1056 ex_1056 => ?_)
                have hG := hG.trans (lt_eq ex_1056)
                have rg_x_1056 := fb_rng x_1056
                have kx_1056 : (fC_partNodes x_1055.toNatClampNeg).toInt = x_1056.toInt := by rw [ex_1056]
                have ux_1056 := a_fC_partNodes x_1055.toNatClampNeg (cl_lt vx_1055 (om_fc2812d4 hi0_n_1040.1 hi0_n_1049.1) (om_e20cec48 b_iC_nodes.2 gc_1041 ux_1050.2 gc_1051))
                rw [show fC_partNodes x_1055.toNatClampNeg = x_1056 from ex_1056.symm] at ux_1056
                refine va_iald hx hb hK hP 1 0 rfl rfl (ti_in rfl ux_1056.1 (om_b3735a34 ux_1056.2)) dX4_waysDown_63 ?_
                refine lv_topi (fun x_1057 ex_1057 => ?_)
                have hG := hG.trans (lt_eq ex_1057)
                have rg_x_1057 := fb_rng x_1057
                have kx_1057 : (f_1048 x_1056.toNatClampNeg).toInt = x_1057.toInt := by rw [ex_1057]
                refine lv_iadd hx hb dX4_waysDown_64 ?_
                refine lv_topi (fun x_1058 ex_1058 => ?_)
                have hG := hG.trans (lt_eq ex_1058)
                have rg_x_1058 := fb_rng x_1058
                refine va_iast hx hb hK hP hD hS 1 0 rfl rfl (ti_in rfl hi0_n_1040.1 (om_97cd4a7c b_iC_nodes.2 gc_1041)) dX4_waysDown_65 (fun H locs hP hD hS => ?_)
                obtain ⟨f_1060, ef_1060⟩ : ∃ g : Nat → Int32, g = upd f_1048 z_1038.toNatClampNeg x_1058 := ⟨_, rfl⟩
                rw [← ef_1060] at hP hD
                have hG := hG.trans (lt_eq ef_1060)
                obtain ⟨hP, hD⟩ := wl2 (ws' := [(oc4 oL rL_values rL_supposed), (arI rL_values kL_values 18 f_1060), (oc1 oC iC_nodes iC_words iC_chances iC_unsures iC_slips iC_throneNode iC_saidWorth iC_unit rC_kind rC_parts rC_partNodes rC_weights rC_weightSums rC_toldWorths rC_steps rC_below rC_above rC_unsureWords rC_unsureWorths), (arI rC_kind kC_kind 18 fC_kind), (arI rC_parts kC_parts 18 fC_parts), (arI rC_partNodes kC_partNodes 72 fC_partNodes)]) hP hD rfl
                obtain ⟨x_1061, ex_1061⟩ : ∃ z : Int32, z = z_1047 + Int32.ofInt 1 := ⟨_, rfl⟩
                have hG := hG.trans (lt_eq ex_1061)
                have vx_1061 : x_1061.toInt = z_1047.toInt + 1 := ti_add (y := 1) ex_1061 rfl kc_1 (om_4e4fce7e hi0_n_1049.1) (om_0ca29412 ux_1050.2 gc_1051)
                refine lv_iinc (v := x_1061) (lv' := [(3, .int x_1061), (2, .int z_1038), (0, .ref oL), (1, .ref oC)]) hx hb dX4_waysDown_66 hl (k := 0) rfl ex_1061.symm (by decide) rfl (fun ls hl => ?_)
                refine lv_goto (tgt := 32) hx hb dX4_waysDown_69 (by decide) ?_
                exact ih_n_1049 x_1061 f_1060 _ _ _  ⟨(om_83b90de5 hi0_n_1049.1 vx_1061), (om_008057e4 ux_1050.2 gc_1051 vx_1061)⟩ (ms_lt hm_n_1049 (om_b9393183 vx_1061) (om_349eab4e ux_1050.2 gc_1051)) hG hP hD hS (lv_sub hl [0, 1, 2, 3] rfl)
          exact key_n_1049 (((2147483647 - (0 : Int32).toInt).toNat) + 1) 0 f_1046 _ _ _  ⟨(om_b1de7dbe kc_0), (om_daf17c64 kc_0)⟩ (Nat.lt_add_one _) hG hP hD hS hl
        · skip
          have hG := hG.trans (if_pos c_1044)
          have gc_1044 := ti_eq c_1044 rfl kc_0
          refine lv_iconst (v := 1) hx hb dX4_waysDown_24 (by decide) ?_
          refine lv_goto (tgt := 29) hx hb dX4_waysDown_25 (by decide) ?_
          refine va_iast hx hb hK hP hD hS 1 0 rfl rfl (ti_in rfl hi0_n_1040.1 (om_97cd4a7c b_iC_nodes.2 gc_1041)) dX4_waysDown_29 (fun H locs hP hD hS => ?_)
          obtain ⟨f_1063, ef_1063⟩ : ∃ g : Nat → Int32, g = upd f_1039 z_1038.toNatClampNeg (1 : Int32) := ⟨_, rfl⟩
          rw [← ef_1063] at hP hD
          have hG := hG.trans (lt_eq ef_1063)
          obtain ⟨hP, hD⟩ := wl2 (ws' := [(oc4 oL rL_values rL_supposed), (arI rL_values kL_values 18 f_1063), (oc1 oC iC_nodes iC_words iC_chances iC_unsures iC_slips iC_throneNode iC_saidWorth iC_unit rC_kind rC_parts rC_partNodes rC_weights rC_weightSums rC_toldWorths rC_steps rC_below rC_above rC_unsureWords rC_unsureWorths), (arI rC_kind kC_kind 18 fC_kind), (arI rC_parts kC_parts 18 fC_parts), (arI rC_partNodes kC_partNodes 72 fC_partNodes)]) hP hD rfl
          refine lv_iconst (v := 0) hx hb dX4_waysDown_30 (by decide) ?_
          refine lv_istore_n (lv' := [(3, .int 0), (2, .int z_1038), (0, .ref oL), (1, .ref oC)]) hx hb dX4_waysDown_31 rfl hl (by decide) rfl (fun ls hl => ?_)
          have hl := lv_sub hl (l' := [(3, .int 0), (2, .int z_1038), (0, .ref oL), (1, .ref oC)]) [0, 1, 2, 3] rfl
          have key_n_1066 : ∀ (n_1066 : Nat) (z_1064 : Int32) (f_1065 : Nat → Int32) (H : Heap) (locs : List Loc) (ls : Array Slot), (0 ≤ z_1064.toInt ∧ z_1064.toInt ≤ 2147483647) → (2147483647 - z_1064.toInt).toNat < n_1066 → (PX4_waysDown fL_values iC_nodes iC_throneNode fC_kind fC_parts fC_partNodes = HX4_waysDown_1 fC_parts fC_partNodes z_1038 (fun (z_1038 : Int32) (f_1039 : Nat → Int32) => HX4_waysDown_0 iC_nodes iC_throneNode fC_kind fC_parts fC_partNodes n_1040 z_1038 f_1039) n_1066 z_1064 f_1065) → va_P (dC, dI) vwCl [(oc4 oL rL_values rL_supposed), (arI rL_values kL_values 18 f_1065), (oc1 oC iC_nodes iC_words iC_chances iC_unsures iC_slips iC_throneNode iC_saidWorth iC_unit rC_kind rC_parts rC_partNodes rC_weights rC_weightSums rC_toldWorths rC_steps rC_below rC_above rC_unsureWords rC_unsureWorths), (arI rC_kind kC_kind 18 fC_kind), (arI rC_parts kC_parts 18 fC_parts), (arI rC_partNodes kC_partNodes 72 fC_partNodes)] H → va_D A [(oc4 oL rL_values rL_supposed), (arI rL_values kL_values 18 f_1065), (oc1 oC iC_nodes iC_words iC_chances iC_unsures iC_slips iC_throneNode iC_saidWorth iC_unit rC_kind rC_parts rC_partNodes rC_weights rC_weightSums rC_toldWorths rC_steps rC_below rC_above rC_unsureWords rC_unsureWorths), (arI rC_kind kC_kind 18 fC_kind), (arI rC_parts kC_parts 18 fC_parts), (arI rC_partNodes kC_partNodes 72 fC_partNodes)] → va_S A s.heap H locs → lv_has ls 4 [(3, .int z_1064), (2, .int z_1038), (0, .ref oL), (1, .ref oC)] → W p l e (headSpec (Cond.code yX4_waysDown cX4_waysDown 4 (some .int) :: wG) ({ frames := 2, cells := 0, slots := 0, locals := 42 })).room s m ([.ref oL, .ref oC] : List Value).toArray below meth c H locs 0 0 (MQ below (va_Qi (fun (r : Int32) (u : Nat) => (True ∧ True) ∧ r = Int32.ofNat u) (fun (u : Nat) (t : State) => ∃ (nfL_values : Nat → Int32), (PX4_waysDown fL_values iC_nodes iC_throneNode fC_kind fC_parts fC_partNodes = (Int32.ofNat u, nfL_values)) ∧ Bw dC dI A [(oc4 oL rL_values rL_supposed), (arI rL_values kL_values 18 nfL_values), (oc1 oC iC_nodes iC_words iC_chances iC_unsures iC_slips iC_throneNode iC_saidWorth iC_unit rC_kind rC_parts rC_partNodes rC_weights rC_weightSums rC_toldWorths rC_steps rC_below rC_above rC_unsureWords rC_unsureWorths), (arI rC_kind kC_kind 18 fC_kind), (arI rC_parts kC_parts 18 fC_parts), (arI rC_partNodes kC_partNodes 72 fC_partNodes)] [(kL_values, .int), (kC_kind, .int), (kC_parts, .int), (kC_partNodes, .int)] t) A) ([.ref oL, .ref oC] : List Value).toArray s 0 0 A) (F0 m 32 ls []) := by
            intro n_1066
            induction n_1066 with
            | zero => intro z_1064 f_1065 H locs ls hi0_n_1066 hm; exact absurd hm (Nat.not_lt_zero _)
            | succ n_1066 ih_n_1066 =>
              intro z_1064 f_1065 H locs ls hi0_n_1066 hm_n_1066 hG hP hD hS hl
              have hG := hG.trans (HX4_waysDown_1_eq _ _ _ _ _ _ _)
              have rg_z_1064 := fb_rng z_1064
              refine lv_iload_n hx hb dX4_waysDown_32 rfl (lv_at hl 0 rfl) ?_
              refine lv_aload_n hx hb dX4_waysDown_33 rfl (lv_at hl 3 rfl) ?_
              refine va_get (D := (dC, dI)) (ci := 1) (v := .ref rC_parts) (C := RX1) (T := TX1) (N := 19) hx hb hts inX1 hown hK hP 2 rfl rfl 9 (by decide) (hts _ wd_623) (fun _ h9 => h9) rfl dX4_waysDown_34 ?_
              refine lv_iload_n hx hb dX4_waysDown_37 rfl (lv_at hl 1 rfl) ?_
              refine va_iald hx hb hK hP 4 2 rfl rfl (ti_in rfl hi0_n_1040.1 (om_97cd4a7c b_iC_nodes.2 gc_1041)) dX4_waysDown_38 ?_
              refine lv_topi (fun x_1067 ex_1067 => ?_)
              have hG := hG.trans (lt_eq ex_1067)
              have rg_x_1067 := fb_rng x_1067
              have kx_1067 : (fC_parts z_1038.toNatClampNeg).toInt = x_1067.toInt := by rw [ex_1067]
              have ux_1067 := a_fC_parts z_1038.toNatClampNeg (cl_lt rfl hi0_n_1040.1 (om_97cd4a7c b_iC_nodes.2 gc_1041))
              rw [show fC_parts z_1038.toNatClampNeg = x_1067 from ex_1067.symm] at ux_1067
              refine lv_icmp_ge (tgt := 72) hx hb dX4_waysDown_39 (by decide) (fun c_1068 => ?_) (fun c_1068 => ?_)
              · skip
                have hG := hG.trans (if_pos c_1068)
                have gc_1068 := ti_le c_1068 rfl rfl
                obtain ⟨x_1069, ex_1069⟩ : ∃ z : Int32, z = z_1038 + Int32.ofInt 1 := ⟨_, rfl⟩
                have hG := hG.trans (lt_eq ex_1069)
                have vx_1069 : x_1069.toInt = z_1038.toInt + 1 := ti_add (y := 1) ex_1069 rfl kc_1 (om_4e4fce7e hi0_n_1040.1) (om_a32d6481 b_iC_nodes.2 gc_1041)
                refine lv_iinc (v := x_1069) (lv' := [(2, .int x_1069), (3, .int z_1064), (0, .ref oL), (1, .ref oC)]) hx hb dX4_waysDown_72 hl (k := 1) rfl ex_1069.symm (by decide) rfl (fun ls hl => ?_)
                refine lv_goto (tgt := 2) hx hb dX4_waysDown_75 (by decide) ?_
                exact ih_n_1040 x_1069 f_1065 _ _ _  ⟨(om_83b90de5 hi0_n_1040.1 vx_1069), (om_ed8867da b_iC_nodes.2 gc_1041 vx_1069)⟩ (ms_lt hm_n_1040 (om_b9393183 vx_1069) (om_1d9fa7fb b_iC_nodes.2 gc_1041)) hG hP hD hS (lv_sub hl [0, 2, 3] rfl)
              · skip
                have hG := hG.trans (if_neg c_1068)
                have gc_1068 := ti_nle c_1068 rfl rfl
                refine lv_aload_n hx hb dX4_waysDown_42 rfl (lv_at hl 2 rfl) ?_
                refine va_get (D := (dC, dI)) (ci := 4) (v := .ref rL_values) (C := RX4) (T := TX4) (N := 2) hx hb hts inX4 hown hK hP 0 rfl rfl 0 (by decide) (hts _ wd_146) (fun _ h9 => h9) rfl dX4_waysDown_43 ?_
                refine lv_iload_n hx hb dX4_waysDown_46 rfl (lv_at hl 1 rfl) ?_
                refine lv_dup2_11 hx hb dX4_waysDown_47 rfl rfl ?_
                refine va_iald hx hb hK hP 1 0 rfl rfl (ti_in rfl hi0_n_1040.1 (om_97cd4a7c b_iC_nodes.2 gc_1041)) dX4_waysDown_48 ?_
                refine lv_topi (fun x_1070 ex_1070 => ?_)
                have hG := hG.trans (lt_eq ex_1070)
                have rg_x_1070 := fb_rng x_1070
                have kx_1070 : (f_1065 z_1038.toNatClampNeg).toInt = x_1070.toInt := by rw [ex_1070]
                refine lv_aload_n hx hb dX4_waysDown_49 rfl (lv_at hl 2 rfl) ?_
                refine va_get (D := (dC, dI)) (ci := 4) (v := .ref rL_values) (C := RX4) (T := TX4) (N := 2) hx hb hts inX4 hown hK hP 0 rfl rfl 0 (by decide) (hts _ wd_146) (fun _ h9 => h9) rfl dX4_waysDown_50 ?_
                refine lv_aload_n hx hb dX4_waysDown_53 rfl (lv_at hl 3 rfl) ?_
                refine va_get (D := (dC, dI)) (ci := 1) (v := .ref rC_partNodes) (C := RX1) (T := TX1) (N := 19) hx hb hts inX1 hown hK hP 2 rfl rfl 10 (by decide) (hts _ wd_624) (fun _ h9 => h9) rfl dX4_waysDown_54 ?_
                refine lv_iload_n hx hb dX4_waysDown_57 rfl (lv_at hl 1 rfl) ?_
                refine lv_iconst (v := 4) hx hb dX4_waysDown_58 (by decide) ?_
                refine lv_imul hx hb dX4_waysDown_59 ?_
                refine lv_topi (fun x_1071 ex_1071 => ?_)
                have hG := hG.trans (lt_eq ex_1071)
                have vx_1071 : x_1071.toInt = 4 * z_1038.toInt := by have q := ti_mul ex_1071 rfl kc_4 (by omega) (by omega); omega
                refine lv_iload_n hx hb dX4_waysDown_60 rfl (lv_at hl 0 rfl) ?_
                refine lv_iadd hx hb dX4_waysDown_61 ?_
                refine lv_topi (fun x_1072 ex_1072 => ?_)
                have hG := hG.trans (lt_eq ex_1072)
                have vx_1072 : x_1072.toInt = 4 * z_1038.toInt + z_1064.toInt := om_5d0caf0f (ti_add ex_1072 vx_1071 rfl (om_056a216f hi0_n_1040.1 hi0_n_1066.1) (om_ba7cfd31 b_iC_nodes.2 gc_1041 ux_1067.2 gc_1068))
                refine va_iald hx hb hK hP 5 3 rfl rfl (ti_in vx_1072 (om_fc2812d4 hi0_n_1040.1 hi0_n_1066.1) (om_e20cec48 b_iC_nodes.2 gc_1041 ux_1067.2 gc_1068)) dX4_waysDown_62 ?_
                refine lv_topi (fun x_1073 ex_1073 => ?_)
                have hG := hG.trans (lt_eq ex_1073)
                have rg_x_1073 := fb_rng x_1073
                have kx_1073 : (fC_partNodes x_1072.toNatClampNeg).toInt = x_1073.toInt := by rw [ex_1073]
                have ux_1073 := a_fC_partNodes x_1072.toNatClampNeg (cl_lt vx_1072 (om_fc2812d4 hi0_n_1040.1 hi0_n_1066.1) (om_e20cec48 b_iC_nodes.2 gc_1041 ux_1067.2 gc_1068))
                rw [show fC_partNodes x_1072.toNatClampNeg = x_1073 from ex_1073.symm] at ux_1073
                refine va_iald hx hb hK hP 1 0 rfl rfl (ti_in rfl ux_1073.1 (om_b3735a34 ux_1073.2)) dX4_waysDown_63 ?_
                refine lv_topi (fun x_1074 ex_1074 => ?_)
                have hG := hG.trans (lt_eq ex_1074)
                have rg_x_1074 := fb_rng x_1074
                have kx_1074 : (f_1065 x_1073.toNatClampNeg).toInt = x_1074.toInt := by rw [ex_1074]
                refine lv_iadd hx hb dX4_waysDown_64 ?_
                refine lv_topi (fun x_1075 ex_1075 => ?_)
                have hG := hG.trans (lt_eq ex_1075)
                have rg_x_1075 := fb_rng x_1075
                refine va_iast hx hb hK hP hD hS 1 0 rfl rfl (ti_in rfl hi0_n_1040.1 (om_97cd4a7c b_iC_nodes.2 gc_1041)) dX4_waysDown_65 (fun H locs hP hD hS => ?_)
                obtain ⟨f_1077, ef_1077⟩ : ∃ g : Nat → Int32, g = upd f_1065 z_1038.toNatClampNeg x_1075 := ⟨_, rfl⟩
                rw [← ef_1077] at hP hD
                have hG := hG.trans (lt_eq ef_1077)
                obtain ⟨hP, hD⟩ := wl2 (ws' := [(oc4 oL rL_values rL_supposed), (arI rL_values kL_values 18 f_1077), (oc1 oC iC_nodes iC_words iC_chances iC_unsures iC_slips iC_throneNode iC_saidWorth iC_unit rC_kind rC_parts rC_partNodes rC_weights rC_weightSums rC_toldWorths rC_steps rC_below rC_above rC_unsureWords rC_unsureWorths), (arI rC_kind kC_kind 18 fC_kind), (arI rC_parts kC_parts 18 fC_parts), (arI rC_partNodes kC_partNodes 72 fC_partNodes)]) hP hD rfl
                obtain ⟨x_1078, ex_1078⟩ : ∃ z : Int32, z = z_1064 + Int32.ofInt 1 := ⟨_, rfl⟩
                have hG := hG.trans (lt_eq ex_1078)
                have vx_1078 : x_1078.toInt = z_1064.toInt + 1 := ti_add (y := 1) ex_1078 rfl kc_1 (om_4e4fce7e hi0_n_1066.1) (om_0ca29412 ux_1067.2 gc_1068)
                refine lv_iinc (v := x_1078) (lv' := [(3, .int x_1078), (2, .int z_1038), (0, .ref oL), (1, .ref oC)]) hx hb dX4_waysDown_66 hl (k := 0) rfl ex_1078.symm (by decide) rfl (fun ls hl => ?_)
                refine lv_goto (tgt := 32) hx hb dX4_waysDown_69 (by decide) ?_
                exact ih_n_1066 x_1078 f_1077 _ _ _  ⟨(om_83b90de5 hi0_n_1066.1 vx_1078), (om_008057e4 ux_1067.2 gc_1068 vx_1078)⟩ (ms_lt hm_n_1066 (om_b9393183 vx_1078) (om_349eab4e ux_1067.2 gc_1068)) hG hP hD hS (lv_sub hl [0, 1, 2, 3] rfl)
          exact key_n_1066 (((2147483647 - (0 : Int32).toInt).toNat) + 1) 0 f_1063 _ _ _  ⟨(om_b1de7dbe kc_0), (om_daf17c64 kc_0)⟩ (Nat.lt_add_one _) hG hP hD hS hl
  exact key_n_1040 (((2147483647 - (0 : Int32).toInt).toNat) + 1) 0 fL_values _ _ _  ⟨(om_b1de7dbe kc_0), (om_daf17c64 kc_0)⟩ (Nat.lt_add_one _) hG hP hD hS hl
set_option maxHeartbeats 4000000 in
set_option maxRecDepth 100000 in
theorem tX4_weighNightNone (l : Launch) (dC : Nat → ClassId) (dI : Nat → Nat → Nat) (sz : Nat) (oL : Nat) (rL_values : Nat) (fL_values : Nat → Int32) (kL_values : ClassId) (rL_supposed : Nat) (oC : Nat) (iC_nodes : Int32) (iC_words : Int32) (iC_chances : Int32) (iC_unsures : Int32) (iC_slips : Int32) (iC_throneNode : Int32) (iC_saidWorth : Int32) (iC_unit : Int32) (rC_kind : Nat) (fC_kind : Nat → Int32) (kC_kind : ClassId) (rC_parts : Nat) (rC_partNodes : Nat) (rC_weights : Nat) (rC_weightSums : Nat) (rC_toldWorths : Nat) (rC_steps : Nat) (rC_below : Nat) (rC_above : Nat) (rC_unsureWords : Nat) (rC_unsureWorths : Nat) (rW : Nat) (fW : Nat → Int32) (kW : ClassId) (b_iC_nodes : 0 ≤ iC_nodes.toInt ∧ iC_nodes.toInt ≤ 18) (b_iC_unsures : 0 ≤ iC_unsures.toInt ∧ iC_unsures.toInt ≤ 4) (b_iC_throneNode : (-1) ≤ iC_throneNode.toInt ∧ iC_throneNode.toInt ≤ 17)  : Met l yX4_weighNightNone (Cond.code yX4_weighNightNone cX4_weighNightNone 4 none :: wG) ({ frames := 0, cells := 0, slots := 0, locals := 0 }) (va_Pc [.ref oL, .ref oC, .ref rW] (Pw dC dI sz [(oc4 oL rL_values rL_supposed), (arI rL_values kL_values 18 fL_values), (oc1 oC iC_nodes iC_words iC_chances iC_unsures iC_slips iC_throneNode iC_saidWorth iC_unit rC_kind rC_parts rC_partNodes rC_weights rC_weightSums rC_toldWorths rC_steps rC_below rC_above rC_unsureWords rC_unsureWorths), (arI rC_kind kC_kind 18 fC_kind), (arI rW kW 18 fW)] [(kL_values, .int), (kC_kind, .int), (kW, .int)])) (va_Qv (fun (_ : Nat) => True) (fun (_ : Nat) (t : State) => ∃ (nfL_values : Nat → Int32), (PX4_weighNightNone fL_values iC_nodes iC_unit fC_kind fW = nfL_values) ∧ Bw dC dI (va_A [(oc4 oL rL_values rL_supposed), (arI rL_values kL_values 18 fL_values), (oc1 oC iC_nodes iC_words iC_chances iC_unsures iC_slips iC_throneNode iC_saidWorth iC_unit rC_kind rC_parts rC_partNodes rC_weights rC_weightSums rC_toldWorths rC_steps rC_below rC_above rC_unsureWords rC_unsureWorths), (arI rC_kind kC_kind 18 fC_kind), (arI rW kW 18 fW)] sz) [(oc4 oL rL_values rL_supposed), (arI rL_values kL_values 18 nfL_values), (oc1 oC iC_nodes iC_words iC_chances iC_unsures iC_slips iC_throneNode iC_saidWorth iC_unit rC_kind rC_parts rC_partNodes rC_weights rC_weightSums rC_toldWorths rC_steps rC_below rC_above rC_unsureWords rC_unsureWorths), (arI rC_kind kC_kind 18 fC_kind), (arI rW kW 18 fW)] [(kL_values, .int), (kC_kind, .int), (kW, .int)] t) (va_A [(oc4 oL rL_values rL_supposed), (arI rL_values kL_values 18 fL_values), (oc1 oC iC_nodes iC_words iC_chances iC_unsures iC_slips iC_throneNode iC_saidWorth iC_unit rC_kind rC_parts rC_partNodes rC_weights rC_weightSums rC_toldWorths rC_steps rC_below rC_above rC_unsureWords rC_unsureWorths), (arI rC_kind kC_kind 18 fC_kind), (arI rW kW 18 fW)] sz)) 0 0 (va_A [(oc4 oL rL_values rL_supposed), (arI rL_values kL_values 18 fL_values), (oc1 oC iC_nodes iC_words iC_chances iC_unsures iC_slips iC_throneNode iC_saidWorth iC_unit rC_kind rC_parts rC_partNodes rC_weights rC_weightSums rC_toldWorths rC_steps rC_below rC_above rC_unsureWords rC_unsureWorths), (arI rC_kind kC_kind 18 fC_kind), (arI rW kW 18 fW)] sz) := by
  refine Met.ofW (cc := cX4_weighNightNone) (maxL := 4) (ret := none) pnX4 rfl ?_
  intro p e s m args below meth c s₁ B hml hv
  obtain ⟨rfl, hsz, hP, hK, hD0, hE⟩ := hv
  have hx := B.exec
  have hb := B.bytes
  have hr := B.returns
  have hts : ∀ w ∈ wG, w.before ([.ref oL, .ref oC, .ref rW] : List Value).toArray s = true := fun w h => atoms_spec (ws := Cond.code yX4_weighNightNone cX4_weighNightNone 4 none :: wG) B.pre w (List.mem_cons_of_mem _ h)
  have hown : s.vm.findClass RX4 = some m.cls := own_of B.named rfl
  have hlocks := B.notSynchronized
  subst hsz
  have hD := hD0.self (sz := s.heap.size)
  generalize hAe : va_A [(oc4 oL rL_values rL_supposed), (arI rL_values kL_values 18 fL_values), (oc1 oC iC_nodes iC_words iC_chances iC_unsures iC_slips iC_throneNode iC_saidWorth iC_unit rC_kind rC_parts rC_partNodes rC_weights rC_weightSums rC_toldWorths rC_steps rC_below rC_above rC_unsureWords rC_unsureWorths), (arI rC_kind kC_kind 18 fC_kind), (arI rW kW 18 fW)] s.heap.size = A at hD hE ⊢
  have hA : ∀ q : Nat, s.heap.size ≤ q → A q := fun q h => by rw [← hAe]; exact Or.inr h
  have hS : va_S A s.heap s.heap [] := va_S.rf
  have hl := lv_entry ([.ref oL, .ref oC, .ref rW]) (n := 4) (Nat.le_of_ble_eq_true rfl)
  rw [lg_entry_eq]
  generalize (lg_sl ([.ref oL, .ref oC, .ref rW]) ++ List.replicate (4 - (lg_sl ([.ref oL, .ref oC, .ref rW])).length) Slot.unset).toArray = ls at hl ⊢
  have hl : lv_has ls 4 [(0, .ref oL), (1, .ref oC), (2, .ref rW)] := hl
  have hG := PX4_weighNightNone_eq fL_values iC_nodes iC_unit fC_kind fW
  refine lv_iconst (v := 0) hx hb dX4_weighNightNone_0 (by decide) ?_
  refine lv_istore_n (lv' := [(3, .int 0), (0, .ref oL), (1, .ref oC), (2, .ref rW)]) hx hb dX4_weighNightNone_1 rfl hl (by decide) rfl (fun ls hl => ?_)
  have hl := lv_sub hl (l' := [(3, .int 0), (0, .ref oL), (1, .ref oC), (2, .ref rW)]) [0, 1, 2, 3] rfl
  have key_n_1102 : ∀ (n_1102 : Nat) (z_1100 : Int32) (f_1101 : Nat → Int32) (H : Heap) (locs : List Loc) (ls : Array Slot), (0 ≤ z_1100.toInt ∧ z_1100.toInt ≤ 2147483647) → (2147483647 - z_1100.toInt).toNat < n_1102 → (PX4_weighNightNone fL_values iC_nodes iC_unit fC_kind fW = HX4_weighNightNone_0 iC_nodes iC_unit fC_kind fW n_1102 z_1100 f_1101) → va_P (dC, dI) vwCl [(oc4 oL rL_values rL_supposed), (arI rL_values kL_values 18 f_1101), (oc1 oC iC_nodes iC_words iC_chances iC_unsures iC_slips iC_throneNode iC_saidWorth iC_unit rC_kind rC_parts rC_partNodes rC_weights rC_weightSums rC_toldWorths rC_steps rC_below rC_above rC_unsureWords rC_unsureWorths), (arI rC_kind kC_kind 18 fC_kind), (arI rW kW 18 fW)] H → va_D A [(oc4 oL rL_values rL_supposed), (arI rL_values kL_values 18 f_1101), (oc1 oC iC_nodes iC_words iC_chances iC_unsures iC_slips iC_throneNode iC_saidWorth iC_unit rC_kind rC_parts rC_partNodes rC_weights rC_weightSums rC_toldWorths rC_steps rC_below rC_above rC_unsureWords rC_unsureWorths), (arI rC_kind kC_kind 18 fC_kind), (arI rW kW 18 fW)] → va_S A s.heap H locs → lv_has ls 4 [(3, .int z_1100), (0, .ref oL), (1, .ref oC), (2, .ref rW)] → W p l e (headSpec (Cond.code yX4_weighNightNone cX4_weighNightNone 4 none :: wG) ({ frames := 0, cells := 0, slots := 0, locals := 0 })).room s m ([.ref oL, .ref oC, .ref rW] : List Value).toArray below meth c H locs 0 0 (MQ below (va_Qv (fun (_ : Nat) => True) (fun (_ : Nat) (t : State) => ∃ (nfL_values : Nat → Int32), (PX4_weighNightNone fL_values iC_nodes iC_unit fC_kind fW = nfL_values) ∧ Bw dC dI A [(oc4 oL rL_values rL_supposed), (arI rL_values kL_values 18 nfL_values), (oc1 oC iC_nodes iC_words iC_chances iC_unsures iC_slips iC_throneNode iC_saidWorth iC_unit rC_kind rC_parts rC_partNodes rC_weights rC_weightSums rC_toldWorths rC_steps rC_below rC_above rC_unsureWords rC_unsureWorths), (arI rC_kind kC_kind 18 fC_kind), (arI rW kW 18 fW)] [(kL_values, .int), (kC_kind, .int), (kW, .int)] t) A) ([.ref oL, .ref oC, .ref rW] : List Value).toArray s 0 0 A) (F0 m 2 ls []) := by
    intro n_1102
    induction n_1102 with
    | zero => intro z_1100 f_1101 H locs ls hi0_n_1102 hm; exact absurd hm (Nat.not_lt_zero _)
    | succ n_1102 ih_n_1102 =>
      intro z_1100 f_1101 H locs ls hi0_n_1102 hm_n_1102 hG hP hD hS hl
      have hG := hG.trans (HX4_weighNightNone_0_eq _ _ _ _ _ _ _)
      have rg_z_1100 := fb_rng z_1100
      refine lv_iload_n hx hb dX4_weighNightNone_2 rfl (lv_at hl 0 rfl) ?_
      refine lv_aload_n hx hb dX4_weighNightNone_3 rfl (lv_at hl 2 rfl) ?_
      refine va_get (D := (dC, dI)) (ci := 1) (v := .int iC_nodes) (C := RX1) (T := TX1) (N := 19) hx hb hts inX1 hown hK hP 2 rfl rfl 0 (by decide) (hts _ wd_616) (fun _ h9 => h9) rfl dX4_weighNightNone_4 ?_
      have rg_iC_nodes := fb_rng iC_nodes
      refine lv_icmp_ge (tgt := 44) hx hb dX4_weighNightNone_7 (by decide) (fun c_1103 => ?_) (fun c_1103 => ?_)
      · skip
        have hG := hG.trans (if_pos c_1103)
        have gc_1103 := ti_le c_1103 rfl rfl
        exact wq_v hx hb hr 0 trivial (fun t ht hW => ⟨f_1101, hG, Bw.to hP hD hK ht hW⟩) hS dX4_weighNightNone_44 hlocks
      · skip
        have hG := hG.trans (if_neg c_1103)
        have gc_1103 := ti_nle c_1103 rfl rfl
        refine lv_aload_n hx hb dX4_weighNightNone_10 rfl (lv_at hl 1 rfl) ?_
        refine va_get (D := (dC, dI)) (ci := 4) (v := .ref rL_values) (C := RX4) (T := TX4) (N := 2) hx hb hts inX4 hown hK hP 0 rfl rfl 0 (by decide) (hts _ wd_146) (fun _ h9 => h9) rfl dX4_weighNightNone_11 ?_
        refine lv_iload_n hx hb dX4_weighNightNone_14 rfl (lv_at hl 0 rfl) ?_
        refine lv_aload_n hx hb dX4_weighNightNone_15 rfl (lv_at hl 2 rfl) ?_
        refine va_get (D := (dC, dI)) (ci := 1) (v := .ref rC_kind) (C := RX1) (T := TX1) (N := 19) hx hb hts inX1 hown hK hP 2 rfl rfl 8 (by decide) (hts _ wd_617) (fun _ h9 => h9) rfl dX4_weighNightNone_16 ?_
        refine lv_iload_n hx hb dX4_weighNightNone_19 rfl (lv_at hl 0 rfl) ?_
        refine va_iald hx hb hK hP 3 1 rfl rfl (ti_in rfl hi0_n_1102.1 (om_97cd4a7c b_iC_nodes.2 gc_1103)) dX4_weighNightNone_20 ?_
        refine lv_topi (fun x_1104 ex_1104 => ?_)
        have hG := hG.trans (lt_eq ex_1104)
        have rg_x_1104 := fb_rng x_1104
        have kx_1104 : (fC_kind z_1100.toNatClampNeg).toInt = x_1104.toInt := by rw [ex_1104]
        refine lv_if_ne (tgt := 30) hx hb dX4_weighNightNone_21 (by decide) (fun c_1105 => ?_) (fun c_1105 => ?_)
        · skip
          have hG := hG.trans (if_neg c_1105)
          have gc_1105 := ti_ne c_1105 rfl kc_0
          refine lv_bipush (v := 50) hx hb dX4_weighNightNone_30 (by decide) ?_
          refine lv_aload_n hx hb dX4_weighNightNone_32 rfl (lv_at hl 2 rfl) ?_
          refine va_get (D := (dC, dI)) (ci := 1) (v := .int iC_unit) (C := RX1) (T := TX1) (N := 19) hx hb hts inX1 hown hK hP 2 rfl rfl 7 (by decide) (hts _ wd_618) (fun _ h9 => h9) rfl dX4_weighNightNone_33 ?_
          have rg_iC_unit := fb_rng iC_unit
          refine lv_imul hx hb dX4_weighNightNone_36 ?_
          refine lv_topi (fun x_1106 ex_1106 => ?_)
          have hG := hG.trans (lt_eq ex_1106)
          have rg_x_1106 := fb_rng x_1106
          refine va_iast hx hb hK hP hD hS 1 0 rfl rfl (ti_in rfl hi0_n_1102.1 (om_97cd4a7c b_iC_nodes.2 gc_1103)) dX4_weighNightNone_37 (fun H locs hP hD hS => ?_)
          obtain ⟨f_1108, ef_1108⟩ : ∃ g : Nat → Int32, g = upd f_1101 z_1100.toNatClampNeg x_1106 := ⟨_, rfl⟩
          rw [← ef_1108] at hP hD
          have hG := hG.trans (lt_eq ef_1108)
          obtain ⟨hP, hD⟩ := wl2 (ws' := [(oc4 oL rL_values rL_supposed), (arI rL_values kL_values 18 f_1108), (oc1 oC iC_nodes iC_words iC_chances iC_unsures iC_slips iC_throneNode iC_saidWorth iC_unit rC_kind rC_parts rC_partNodes rC_weights rC_weightSums rC_toldWorths rC_steps rC_below rC_above rC_unsureWords rC_unsureWorths), (arI rC_kind kC_kind 18 fC_kind), (arI rW kW 18 fW)]) hP hD rfl
          obtain ⟨x_1109, ex_1109⟩ : ∃ z : Int32, z = z_1100 + Int32.ofInt 1 := ⟨_, rfl⟩
          have hG := hG.trans (lt_eq ex_1109)
          have vx_1109 : x_1109.toInt = z_1100.toInt + 1 := ti_add (y := 1) ex_1109 rfl kc_1 (om_4e4fce7e hi0_n_1102.1) (om_a32d6481 b_iC_nodes.2 gc_1103)
          refine lv_iinc (v := x_1109) (lv' := [(3, .int x_1109), (0, .ref oL), (1, .ref oC), (2, .ref rW)]) hx hb dX4_weighNightNone_38 hl (k := 0) rfl ex_1109.symm (by decide) rfl (fun ls hl => ?_)
          refine lv_goto (tgt := 2) hx hb dX4_weighNightNone_41 (by decide) ?_
          exact ih_n_1102 x_1109 f_1108 _ _ _  ⟨(om_83b90de5 hi0_n_1102.1 vx_1109), (om_ed8867da b_iC_nodes.2 gc_1103 vx_1109)⟩ (ms_lt hm_n_1102 (om_b9393183 vx_1109) (om_1d9fa7fb b_iC_nodes.2 gc_1103)) hG hP hD hS (lv_sub hl [0, 1, 2, 3] rfl)
        · skip
          have hG := hG.trans (if_pos c_1105)
          have gc_1105 := ti_eq c_1105 rfl kc_0
          refine lv_aload_n hx hb dX4_weighNightNone_24 rfl (lv_at hl 3 rfl) ?_
          refine lv_iload_n hx hb dX4_weighNightNone_25 rfl (lv_at hl 0 rfl) ?_
          refine va_iald hx hb hK hP 4 2 rfl rfl (ti_in rfl hi0_n_1102.1 (om_97cd4a7c b_iC_nodes.2 gc_1103)) dX4_weighNightNone_26 ?_
          refine lv_topi (fun x_1110 ex_1110 => ?_)
          have hG := hG.trans (lt_eq ex_1110)
          have rg_x_1110 := fb_rng x_1110
          have kx_1110 : (fW z_1100.toNatClampNeg).toInt = x_1110.toInt := by rw [ex_1110]
          refine lv_goto (tgt := 32) hx hb dX4_weighNightNone_27 (by decide) ?_
          refine lv_aload_n hx hb dX4_weighNightNone_32 rfl (lv_at hl 2 rfl) ?_
          refine va_get (D := (dC, dI)) (ci := 1) (v := .int iC_unit) (C := RX1) (T := TX1) (N := 19) hx hb hts inX1 hown hK hP 2 rfl rfl 7 (by decide) (hts _ wd_618) (fun _ h9 => h9) rfl dX4_weighNightNone_33 ?_
          have rg_iC_unit := fb_rng iC_unit
          refine lv_imul hx hb dX4_weighNightNone_36 ?_
          refine lv_topi (fun x_1111 ex_1111 => ?_)
          have hG := hG.trans (lt_eq ex_1111)
          have rg_x_1111 := fb_rng x_1111
          refine va_iast hx hb hK hP hD hS 1 0 rfl rfl (ti_in rfl hi0_n_1102.1 (om_97cd4a7c b_iC_nodes.2 gc_1103)) dX4_weighNightNone_37 (fun H locs hP hD hS => ?_)
          obtain ⟨f_1113, ef_1113⟩ : ∃ g : Nat → Int32, g = upd f_1101 z_1100.toNatClampNeg x_1111 := ⟨_, rfl⟩
          rw [← ef_1113] at hP hD
          have hG := hG.trans (lt_eq ef_1113)
          obtain ⟨hP, hD⟩ := wl2 (ws' := [(oc4 oL rL_values rL_supposed), (arI rL_values kL_values 18 f_1113), (oc1 oC iC_nodes iC_words iC_chances iC_unsures iC_slips iC_throneNode iC_saidWorth iC_unit rC_kind rC_parts rC_partNodes rC_weights rC_weightSums rC_toldWorths rC_steps rC_below rC_above rC_unsureWords rC_unsureWorths), (arI rC_kind kC_kind 18 fC_kind), (arI rW kW 18 fW)]) hP hD rfl
          obtain ⟨x_1114, ex_1114⟩ : ∃ z : Int32, z = z_1100 + Int32.ofInt 1 := ⟨_, rfl⟩
          have hG := hG.trans (lt_eq ex_1114)
          have vx_1114 : x_1114.toInt = z_1100.toInt + 1 := ti_add (y := 1) ex_1114 rfl kc_1 (om_4e4fce7e hi0_n_1102.1) (om_a32d6481 b_iC_nodes.2 gc_1103)
          refine lv_iinc (v := x_1114) (lv' := [(3, .int x_1114), (0, .ref oL), (1, .ref oC), (2, .ref rW)]) hx hb dX4_weighNightNone_38 hl (k := 0) rfl ex_1114.symm (by decide) rfl (fun ls hl => ?_)
          refine lv_goto (tgt := 2) hx hb dX4_weighNightNone_41 (by decide) ?_
          exact ih_n_1102 x_1114 f_1113 _ _ _  ⟨(om_83b90de5 hi0_n_1102.1 vx_1114), (om_ed8867da b_iC_nodes.2 gc_1103 vx_1114)⟩ (ms_lt hm_n_1102 (om_b9393183 vx_1114) (om_1d9fa7fb b_iC_nodes.2 gc_1103)) hG hP hD hS (lv_sub hl [0, 1, 2, 3] rfl)
  exact key_n_1102 (((2147483647 - (0 : Int32).toInt).toNat) + 1) 0 fL_values _ _ _  ⟨(om_b1de7dbe kc_0), (om_daf17c64 kc_0)⟩ (Nat.lt_add_one _) hG hP hD hS hl
set_option maxHeartbeats 4000000 in
set_option maxRecDepth 100000 in
theorem tX4_weighNextNight (l : Launch) (dC : Nat → ClassId) (dI : Nat → Nat → Nat) (sz : Nat) (oL : Nat) (rL_values : Nat) (fL_values : Nat → Int32) (kL_values : ClassId) (rL_supposed : Nat) (oC : Nat) (iC_nodes : Int32) (iC_words : Int32) (iC_chances : Int32) (iC_unsures : Int32) (iC_slips : Int32) (iC_throneNode : Int32) (iC_saidWorth : Int32) (iC_unit : Int32) (rC_kind : Nat) (fC_kind : Nat → Int32) (kC_kind : ClassId) (rC_parts : Nat) (fC_parts : Nat → Int32) (kC_parts : ClassId) (rC_partNodes : Nat) (fC_partNodes : Nat → Int32) (kC_partNodes : ClassId) (rC_weights : Nat) (fC_weights : Nat → Int32) (kC_weights : ClassId) (rC_weightSums : Nat) (fC_weightSums : Nat → Int32) (kC_weightSums : ClassId) (rC_toldWorths : Nat) (rC_steps : Nat) (rC_below : Nat) (rC_above : Nat) (rC_unsureWords : Nat) (rC_unsureWorths : Nat) (b_iC_nodes : 0 ≤ iC_nodes.toInt ∧ iC_nodes.toInt ≤ 18) (b_iC_unsures : 0 ≤ iC_unsures.toInt ∧ iC_unsures.toInt ≤ 4) (b_iC_throneNode : (-1) ≤ iC_throneNode.toInt ∧ iC_throneNode.toInt ≤ 17) (a_fC_parts : ∀ j : Nat, j < 18 → 0 ≤ (fC_parts j).toInt ∧ (fC_parts j).toInt ≤ 4) (a_fC_partNodes : ∀ j : Nat, j < 72 → 0 ≤ (fC_partNodes j).toInt ∧ (fC_partNodes j).toInt ≤ 17)  : Met l yX4_weighNextNight (Cond.code yX4_weighNextNight cX4_weighNextNight 3 none :: wG) ({ frames := 2, cells := 0, slots := 0, locals := 48 }) (va_Pc [.ref oL, .ref oC] (Pw dC dI sz [(oc4 oL rL_values rL_supposed), (arI rL_values kL_values 18 fL_values), (oc1 oC iC_nodes iC_words iC_chances iC_unsures iC_slips iC_throneNode iC_saidWorth iC_unit rC_kind rC_parts rC_partNodes rC_weights rC_weightSums rC_toldWorths rC_steps rC_below rC_above rC_unsureWords rC_unsureWorths), (arI rC_kind kC_kind 18 fC_kind), (arI rC_parts kC_parts 18 fC_parts), (arI rC_partNodes kC_partNodes 72 fC_partNodes), (arI rC_weights kC_weights 72 fC_weights), (arI rC_weightSums kC_weightSums 18 fC_weightSums)] [(kL_values, .int), (kC_kind, .int), (kC_parts, .int), (kC_partNodes, .int), (kC_weights, .int), (kC_weightSums, .int)])) (va_Qv (fun (_ : Nat) => True) (fun (_ : Nat) (t : State) => ∃ (nfL_values : Nat → Int32), (PX4_weighNextNight fL_values iC_nodes fC_kind fC_parts fC_partNodes fC_weights fC_weightSums = nfL_values) ∧ Bw dC dI (va_A [(oc4 oL rL_values rL_supposed), (arI rL_values kL_values 18 fL_values), (oc1 oC iC_nodes iC_words iC_chances iC_unsures iC_slips iC_throneNode iC_saidWorth iC_unit rC_kind rC_parts rC_partNodes rC_weights rC_weightSums rC_toldWorths rC_steps rC_below rC_above rC_unsureWords rC_unsureWorths), (arI rC_kind kC_kind 18 fC_kind), (arI rC_parts kC_parts 18 fC_parts), (arI rC_partNodes kC_partNodes 72 fC_partNodes), (arI rC_weights kC_weights 72 fC_weights), (arI rC_weightSums kC_weightSums 18 fC_weightSums)] sz) [(oc4 oL rL_values rL_supposed), (arI rL_values kL_values 18 nfL_values), (oc1 oC iC_nodes iC_words iC_chances iC_unsures iC_slips iC_throneNode iC_saidWorth iC_unit rC_kind rC_parts rC_partNodes rC_weights rC_weightSums rC_toldWorths rC_steps rC_below rC_above rC_unsureWords rC_unsureWorths), (arI rC_kind kC_kind 18 fC_kind), (arI rC_parts kC_parts 18 fC_parts), (arI rC_partNodes kC_partNodes 72 fC_partNodes), (arI rC_weights kC_weights 72 fC_weights), (arI rC_weightSums kC_weightSums 18 fC_weightSums)] [(kL_values, .int), (kC_kind, .int), (kC_parts, .int), (kC_partNodes, .int), (kC_weights, .int), (kC_weightSums, .int)] t) (va_A [(oc4 oL rL_values rL_supposed), (arI rL_values kL_values 18 fL_values), (oc1 oC iC_nodes iC_words iC_chances iC_unsures iC_slips iC_throneNode iC_saidWorth iC_unit rC_kind rC_parts rC_partNodes rC_weights rC_weightSums rC_toldWorths rC_steps rC_below rC_above rC_unsureWords rC_unsureWorths), (arI rC_kind kC_kind 18 fC_kind), (arI rC_parts kC_parts 18 fC_parts), (arI rC_partNodes kC_partNodes 72 fC_partNodes), (arI rC_weights kC_weights 72 fC_weights), (arI rC_weightSums kC_weightSums 18 fC_weightSums)] sz)) 0 0 (va_A [(oc4 oL rL_values rL_supposed), (arI rL_values kL_values 18 fL_values), (oc1 oC iC_nodes iC_words iC_chances iC_unsures iC_slips iC_throneNode iC_saidWorth iC_unit rC_kind rC_parts rC_partNodes rC_weights rC_weightSums rC_toldWorths rC_steps rC_below rC_above rC_unsureWords rC_unsureWorths), (arI rC_kind kC_kind 18 fC_kind), (arI rC_parts kC_parts 18 fC_parts), (arI rC_partNodes kC_partNodes 72 fC_partNodes), (arI rC_weights kC_weights 72 fC_weights), (arI rC_weightSums kC_weightSums 18 fC_weightSums)] sz) := by
  refine Met.ofW (cc := cX4_weighNextNight) (maxL := 3) (ret := none) pnX4 rfl ?_
  intro p e s m args below meth c s₁ B hml hv
  obtain ⟨rfl, hsz, hP, hK, hD0, hE⟩ := hv
  have hx := B.exec
  have hb := B.bytes
  have hr := B.returns
  have hts : ∀ w ∈ wG, w.before ([.ref oL, .ref oC] : List Value).toArray s = true := fun w h => atoms_spec (ws := Cond.code yX4_weighNextNight cX4_weighNextNight 3 none :: wG) B.pre w (List.mem_cons_of_mem _ h)
  have hown : s.vm.findClass RX4 = some m.cls := own_of B.named rfl
  have hlocks := B.notSynchronized
  subst hsz
  have hD := hD0.self (sz := s.heap.size)
  generalize hAe : va_A [(oc4 oL rL_values rL_supposed), (arI rL_values kL_values 18 fL_values), (oc1 oC iC_nodes iC_words iC_chances iC_unsures iC_slips iC_throneNode iC_saidWorth iC_unit rC_kind rC_parts rC_partNodes rC_weights rC_weightSums rC_toldWorths rC_steps rC_below rC_above rC_unsureWords rC_unsureWorths), (arI rC_kind kC_kind 18 fC_kind), (arI rC_parts kC_parts 18 fC_parts), (arI rC_partNodes kC_partNodes 72 fC_partNodes), (arI rC_weights kC_weights 72 fC_weights), (arI rC_weightSums kC_weightSums 18 fC_weightSums)] s.heap.size = A at hD hE ⊢
  have hA : ∀ q : Nat, s.heap.size ≤ q → A q := fun q h => by rw [← hAe]; exact Or.inr h
  have hS : va_S A s.heap s.heap [] := va_S.rf
  have hl := lv_entry ([.ref oL, .ref oC]) (n := 3) (Nat.le_of_ble_eq_true rfl)
  rw [lg_entry_eq]
  generalize (lg_sl ([.ref oL, .ref oC]) ++ List.replicate (3 - (lg_sl ([.ref oL, .ref oC])).length) Slot.unset).toArray = ls at hl ⊢
  have hl : lv_has ls 3 [(0, .ref oL), (1, .ref oC)] := hl
  have hG := PX4_weighNextNight_eq fL_values iC_nodes fC_kind fC_parts fC_partNodes fC_weights fC_weightSums
  refine lv_aload_n hx hb dX4_weighNextNight_0 rfl (lv_at hl 1 rfl) ?_
  refine va_get (D := (dC, dI)) (ci := 1) (v := .int iC_nodes) (C := RX1) (T := TX1) (N := 19) hx hb hts inX1 hown hK hP 2 rfl rfl 0 (by decide) (hts _ wd_616) (fun _ h9 => h9) rfl dX4_weighNextNight_1 ?_
  refine lv_iconst (v := 1) hx hb dX4_weighNextNight_4 (by decide) ?_
  refine lv_isub hx hb dX4_weighNextNight_5 ?_
  refine lv_topi (fun x_1136 ex_1136 => ?_)
  have hG := hG.trans (lt_eq ex_1136)
  have vx_1136 : x_1136.toInt = iC_nodes.toInt + (-1) := om_89646172 (ti_sub ex_1136 rfl kc_1 (om_e65a73c2 b_iC_nodes.1) (om_6178c2cd b_iC_nodes.2))
  refine lv_istore_n (lv' := [(2, .int x_1136), (0, .ref oL), (1, .ref oC)]) hx hb dX4_weighNextNight_6 rfl hl (by decide) rfl (fun ls hl => ?_)
  have hl := lv_sub hl (l' := [(2, .int x_1136), (0, .ref oL), (1, .ref oC)]) [0, 1, 2] rfl
  have key_n_1139 : ∀ (n_1139 : Nat) (z_1137 : Int32) (f_1138 : Nat → Int32) (H : Heap) (locs : List Loc) (ls : Array Slot), ((-1) ≤ z_1137.toInt ∧ z_1137.toInt ≤ 17) → (z_1137.toInt - (-1)).toNat < n_1139 → (PX4_weighNextNight fL_values iC_nodes fC_kind fC_parts fC_partNodes fC_weights fC_weightSums = HX4_weighNextNight_0 fC_kind fC_parts fC_partNodes fC_weights fC_weightSums n_1139 z_1137 f_1138) → va_P (dC, dI) vwCl [(oc4 oL rL_values rL_supposed), (arI rL_values kL_values 18 f_1138), (oc1 oC iC_nodes iC_words iC_chances iC_unsures iC_slips iC_throneNode iC_saidWorth iC_unit rC_kind rC_parts rC_partNodes rC_weights rC_weightSums rC_toldWorths rC_steps rC_below rC_above rC_unsureWords rC_unsureWorths), (arI rC_kind kC_kind 18 fC_kind), (arI rC_parts kC_parts 18 fC_parts), (arI rC_partNodes kC_partNodes 72 fC_partNodes), (arI rC_weights kC_weights 72 fC_weights), (arI rC_weightSums kC_weightSums 18 fC_weightSums)] H → va_D A [(oc4 oL rL_values rL_supposed), (arI rL_values kL_values 18 f_1138), (oc1 oC iC_nodes iC_words iC_chances iC_unsures iC_slips iC_throneNode iC_saidWorth iC_unit rC_kind rC_parts rC_partNodes rC_weights rC_weightSums rC_toldWorths rC_steps rC_below rC_above rC_unsureWords rC_unsureWorths), (arI rC_kind kC_kind 18 fC_kind), (arI rC_parts kC_parts 18 fC_parts), (arI rC_partNodes kC_partNodes 72 fC_partNodes), (arI rC_weights kC_weights 72 fC_weights), (arI rC_weightSums kC_weightSums 18 fC_weightSums)] → va_S A s.heap H locs → lv_has ls 3 [(2, .int z_1137), (0, .ref oL), (1, .ref oC)] → W p l e (headSpec (Cond.code yX4_weighNextNight cX4_weighNextNight 3 none :: wG) ({ frames := 2, cells := 0, slots := 0, locals := 48 })).room s m ([.ref oL, .ref oC] : List Value).toArray below meth c H locs 0 0 (MQ below (va_Qv (fun (_ : Nat) => True) (fun (_ : Nat) (t : State) => ∃ (nfL_values : Nat → Int32), (PX4_weighNextNight fL_values iC_nodes fC_kind fC_parts fC_partNodes fC_weights fC_weightSums = nfL_values) ∧ Bw dC dI A [(oc4 oL rL_values rL_supposed), (arI rL_values kL_values 18 nfL_values), (oc1 oC iC_nodes iC_words iC_chances iC_unsures iC_slips iC_throneNode iC_saidWorth iC_unit rC_kind rC_parts rC_partNodes rC_weights rC_weightSums rC_toldWorths rC_steps rC_below rC_above rC_unsureWords rC_unsureWorths), (arI rC_kind kC_kind 18 fC_kind), (arI rC_parts kC_parts 18 fC_parts), (arI rC_partNodes kC_partNodes 72 fC_partNodes), (arI rC_weights kC_weights 72 fC_weights), (arI rC_weightSums kC_weightSums 18 fC_weightSums)] [(kL_values, .int), (kC_kind, .int), (kC_parts, .int), (kC_partNodes, .int), (kC_weights, .int), (kC_weightSums, .int)] t) A) ([.ref oL, .ref oC] : List Value).toArray s 0 0 A) (F0 m 7 ls []) := by
    intro n_1139
    induction n_1139 with
    | zero => intro z_1137 f_1138 H locs ls hi0_n_1139 hm; exact absurd hm (Nat.not_lt_zero _)
    | succ n_1139 ih_n_1139 =>
      intro z_1137 f_1138 H locs ls hi0_n_1139 hm_n_1139 hG hP hD hS hl
      have hG := hG.trans (HX4_weighNextNight_0_eq _ _ _ _ _ _ _ _)
      refine lv_iload_n hx hb dX4_weighNextNight_7 rfl (lv_at hl 0 rfl) ?_
      refine lv_if_lt (tgt := 38) hx hb dX4_weighNextNight_8 (by decide) (fun c_1140 => ?_) (fun c_1140 => ?_)
      · skip
        have hG := hG.trans (if_pos c_1140)
        have gc_1140 := ti_lt c_1140 rfl kc_0
        exact wq_v hx hb hr 0 trivial (fun t ht hW => ⟨f_1138, hG, Bw.to hP hD hK ht hW⟩) hS dX4_weighNextNight_38 hlocks
      · skip
        have hG := hG.trans (if_neg c_1140)
        have gc_1140 := ti_nlt c_1140 rfl kc_0
        refine lv_aload_n hx hb dX4_weighNextNight_11 rfl (lv_at hl 2 rfl) ?_
        refine va_get (D := (dC, dI)) (ci := 1) (v := .ref rC_kind) (C := RX1) (T := TX1) (N := 19) hx hb hts inX1 hown hK hP 2 rfl rfl 8 (by decide) (hts _ wd_617) (fun _ h9 => h9) rfl dX4_weighNextNight_12 ?_
        refine lv_iload_n hx hb dX4_weighNextNight_15 rfl (lv_at hl 0 rfl) ?_
        refine va_iald hx hb hK hP 3 1 rfl rfl (ti_in rfl gc_1140 (om_b3735a34 hi0_n_1139.2)) dX4_weighNextNight_16 ?_
        refine lv_topi (fun x_1141 ex_1141 => ?_)
        have hG := hG.trans (lt_eq ex_1141)
        have kx_1141 : (fC_kind z_1137.toNatClampNeg).toInt = x_1141.toInt := by rw [ex_1141]
        refine lv_if_eq (tgt := 32) hx hb dX4_weighNextNight_17 (by decide) (fun c_1142 => ?_) (fun c_1142 => ?_)
        · skip
          have hG := hG.trans (if_pos c_1142)
          have gc_1142 := ti_eq c_1142 rfl kc_0
          obtain ⟨x_1143, ex_1143⟩ : ∃ z : Int32, z = z_1137 + Int32.ofInt (-1) := ⟨_, rfl⟩
          have hG := hG.trans (lt_eq ex_1143)
          have vx_1143 : x_1143.toInt = z_1137.toInt + (-1) := ti_add (y := (-1)) ex_1143 rfl kc_m1 (om_7c9e45be hi0_n_1139.1) (om_27bcd485 hi0_n_1139.2)
          refine lv_iinc (v := x_1143) (lv' := [(2, .int x_1143), (0, .ref oL), (1, .ref oC)]) hx hb dX4_weighNextNight_32 hl (k := 0) rfl ex_1143.symm (by decide) rfl (fun ls hl => ?_)
          refine lv_goto (tgt := 7) hx hb dX4_weighNextNight_35 (by decide) ?_
          exact ih_n_1139 x_1143 f_1138 _ _ _  ⟨(om_73d763a0 gc_1140 vx_1143), (om_96a52bfb hi0_n_1139.2 vx_1143)⟩ (ms_lt hm_n_1139 (om_a2cb7fa1 vx_1143) (om_9b4dc480 gc_1140)) hG hP hD hS (lv_sub hl [0, 1, 2] rfl)
        · skip
          have hG := hG.trans (if_neg c_1142)
          have gc_1142 := ti_ne c_1142 rfl kc_0
          refine lv_aload_n hx hb dX4_weighNextNight_20 rfl (lv_at hl 1 rfl) ?_
          refine va_get (D := (dC, dI)) (ci := 4) (v := .ref rL_values) (C := RX4) (T := TX4) (N := 2) hx hb hts inX4 hown hK hP 0 rfl rfl 0 (by decide) (hts _ wd_146) (fun _ h9 => h9) rfl dX4_weighNextNight_21 ?_
          refine lv_iload_n hx hb dX4_weighNextNight_24 rfl (lv_at hl 0 rfl) ?_
          refine lv_aload_n hx hb dX4_weighNextNight_25 rfl (lv_at hl 1 rfl) ?_
          refine lv_aload_n hx hb dX4_weighNextNight_26 rfl (lv_at hl 2 rfl) ?_
          refine lv_iload_n hx hb dX4_weighNextNight_27 rfl (lv_at hl 0 rfl) ?_
          have hFc := va_freeI hD hS hA
          refine va_calli (va_runV (As := [.ref oC, .int z_1137]) (rest := [.int z_1137, .ref rL_values]) ⟨hx, hb, hml, hown, hts⟩ (tX4_joined l dC dI _ oL rL_values f_1138 kL_values rL_supposed oC iC_nodes iC_words iC_chances iC_unsures iC_slips iC_throneNode iC_saidWorth iC_unit rC_kind fC_kind kC_kind rC_parts fC_parts kC_parts rC_partNodes fC_partNodes kC_partNodes rC_weights fC_weights kC_weights rC_weightSums fC_weightSums kC_weightSums rC_toldWorths rC_steps rC_below rC_above rC_unsureWords rC_unsureWorths z_1137 b_iC_nodes b_iC_unsures b_iC_throneNode a_fC_parts a_fC_partNodes ⟨gc_1140, hi0_n_1139.2⟩) (cwV 2 hts (wd_V wd_619 wd_620 wd_621 wd_37 (wd_c wd_622)) rfl rfl rfl dv_yX4_joined_2 ⟨Nat.le_of_ble_eq_true rfl, Nat.le_of_ble_eq_true rfl⟩) ⟨Pw.fb, recvX4 hK hP (q0 := 0) rfl, fun U hU hW => Pw.to hP hD hK hE hS hFc hU hW⟩ rfl rfl hl.1 rfl (lv_room (Nat.le_of_ble_eq_true rfl)) dX4_weighNextNight_28 ⟨Nat.le_of_ble_eq_true rfl, Nat.le_of_ble_eq_true rfl⟩) hS (fun q _ h => hFc q h) hFc (fun r u t H locs ht hvm hw hB hz1 hk1 hS => ?_)
          have hru9 := hw.2
          have hw := hw.1
          obtain ⟨hP, hD⟩ := Bw.goA (ws' := [(oc4 oL rL_values rL_supposed), (arI rL_values kL_values 18 f_1138), (oc1 oC iC_nodes iC_words iC_chances iC_unsures iC_slips iC_throneNode iC_saidWorth iC_unit rC_kind rC_parts rC_partNodes rC_weights rC_weightSums rC_toldWorths rC_steps rC_below rC_above rC_unsureWords rC_unsureWorths), (arI rC_kind kC_kind 18 fC_kind), (arI rC_parts kC_parts 18 fC_parts), (arI rC_partNodes kC_partNodes 72 fC_partNodes), (arI rC_weights kC_weights 72 fC_weights), (arI rC_weightSums kC_weightSums 18 fC_weightSums)]) hB rfl ht hFc rfl
          clear hz1 hk1 hvm ht hB
          obtain ⟨x_1144, rfl⟩ : ∃ z, z = r := ⟨_, rfl⟩
          have hG := hG.trans (lt_eq hru9.symm)
          refine va_iast hx hb hK hP hD hS 1 0 rfl rfl (ti_in rfl gc_1140 (om_b3735a34 hi0_n_1139.2)) dX4_weighNextNight_31 (fun H locs hP hD hS => ?_)
          obtain ⟨f_1146, ef_1146⟩ : ∃ g : Nat → Int32, g = upd f_1138 z_1137.toNatClampNeg x_1144 := ⟨_, rfl⟩
          rw [← ef_1146] at hP hD
          have hG := hG.trans (lt_eq ef_1146)
          obtain ⟨hP, hD⟩ := wl2 (ws' := [(oc4 oL rL_values rL_supposed), (arI rL_values kL_values 18 f_1146), (oc1 oC iC_nodes iC_words iC_chances iC_unsures iC_slips iC_throneNode iC_saidWorth iC_unit rC_kind rC_parts rC_partNodes rC_weights rC_weightSums rC_toldWorths rC_steps rC_below rC_above rC_unsureWords rC_unsureWorths), (arI rC_kind kC_kind 18 fC_kind), (arI rC_parts kC_parts 18 fC_parts), (arI rC_partNodes kC_partNodes 72 fC_partNodes), (arI rC_weights kC_weights 72 fC_weights), (arI rC_weightSums kC_weightSums 18 fC_weightSums)]) hP hD rfl
          obtain ⟨x_1147, ex_1147⟩ : ∃ z : Int32, z = z_1137 + Int32.ofInt (-1) := ⟨_, rfl⟩
          have hG := hG.trans (lt_eq ex_1147)
          have vx_1147 : x_1147.toInt = z_1137.toInt + (-1) := ti_add (y := (-1)) ex_1147 rfl kc_m1 (om_7c9e45be hi0_n_1139.1) (om_27bcd485 hi0_n_1139.2)
          refine lv_iinc (v := x_1147) (lv' := [(2, .int x_1147), (0, .ref oL), (1, .ref oC)]) hx hb dX4_weighNextNight_32 hl (k := 0) rfl ex_1147.symm (by decide) rfl (fun ls hl => ?_)
          refine lv_goto (tgt := 7) hx hb dX4_weighNextNight_35 (by decide) ?_
          exact ih_n_1139 x_1147 f_1146 _ _ _  ⟨(om_73d763a0 gc_1140 vx_1147), (om_96a52bfb hi0_n_1139.2 vx_1147)⟩ (ms_lt hm_n_1139 (om_a2cb7fa1 vx_1147) (om_9b4dc480 gc_1140)) hG hP hD hS (lv_sub hl [0, 1, 2] rfl)
  exact key_n_1139 (((x_1136.toInt - (-1)).toNat) + 1) x_1136 fL_values _ _ _  ⟨(om_73d763a0 b_iC_nodes.1 vx_1136), (om_18eccbe9 b_iC_nodes.2 vx_1136)⟩ (Nat.lt_add_one _) hG hP hD hS hl
