set_option maxHeartbeats 4000000 in
set_option maxRecDepth 100000 in
theorem tX4_throneValue (l : Launch) (dC : Nat → ClassId) (dI : Nat → Nat → Nat) (sz : Nat) (oL : Nat) (rL_values : Nat) (fL_values : Nat → Int32) (kL_values : ClassId) (rL_supposed : Nat) (oC : Nat) (iC_nodes : Int32) (iC_words : Int32) (iC_chances : Int32) (iC_unsures : Int32) (iC_slips : Int32) (iC_throneNode : Int32) (iC_saidWorth : Int32) (iC_unit : Int32) (rC_kind : Nat) (rC_parts : Nat) (rC_partNodes : Nat) (rC_weights : Nat) (rC_weightSums : Nat) (rC_toldWorths : Nat) (rC_steps : Nat) (rC_below : Nat) (rC_above : Nat) (rC_unsureWords : Nat) (rC_unsureWorths : Nat) (b_iC_nodes : 0 ≤ iC_nodes.toInt ∧ iC_nodes.toInt ≤ 18) (b_iC_unsures : 0 ≤ iC_unsures.toInt ∧ iC_unsures.toInt ≤ 4) (b_iC_throneNode : (-1) ≤ iC_throneNode.toInt ∧ iC_throneNode.toInt ≤ 17)  : Met l yX4_throneValue (Cond.code yX4_throneValue cX4_throneValue 2 (some .int) :: wG) ({ frames := 1, cells := 0, slots := 0, locals := 21 }) (va_Pc [.ref oL, .ref oC] (Pw dC dI sz [(oc4 oL rL_values rL_supposed), (arI rL_values kL_values 18 fL_values), (oc1 oC iC_nodes iC_words iC_chances iC_unsures iC_slips iC_throneNode iC_saidWorth iC_unit rC_kind rC_parts rC_partNodes rC_weights rC_weightSums rC_toldWorths rC_steps rC_below rC_above rC_unsureWords rC_unsureWorths)] [(kL_values, .int)])) (va_Qi (fun (r : Int32) (_ : Nat) => True ∧ True) (fun (_ : Nat) (t : State) => Bw dC dI (va_A [(oc4 oL rL_values rL_supposed), (arI rL_values kL_values 18 fL_values), (oc1 oC iC_nodes iC_words iC_chances iC_unsures iC_slips iC_throneNode iC_saidWorth iC_unit rC_kind rC_parts rC_partNodes rC_weights rC_weightSums rC_toldWorths rC_steps rC_below rC_above rC_unsureWords rC_unsureWorths)] sz) [(oc4 oL rL_values rL_supposed), (arI rL_values kL_values 18 fL_values), (oc1 oC iC_nodes iC_words iC_chances iC_unsures iC_slips iC_throneNode iC_saidWorth iC_unit rC_kind rC_parts rC_partNodes rC_weights rC_weightSums rC_toldWorths rC_steps rC_below rC_above rC_unsureWords rC_unsureWorths)] [(kL_values, .int)] t) (va_A [(oc4 oL rL_values rL_supposed), (arI rL_values kL_values 18 fL_values), (oc1 oC iC_nodes iC_words iC_chances iC_unsures iC_slips iC_throneNode iC_saidWorth iC_unit rC_kind rC_parts rC_partNodes rC_weights rC_weightSums rC_toldWorths rC_steps rC_below rC_above rC_unsureWords rC_unsureWorths)] sz)) 0 0 (va_A [(oc4 oL rL_values rL_supposed), (arI rL_values kL_values 18 fL_values), (oc1 oC iC_nodes iC_words iC_chances iC_unsures iC_slips iC_throneNode iC_saidWorth iC_unit rC_kind rC_parts rC_partNodes rC_weights rC_weightSums rC_toldWorths rC_steps rC_below rC_above rC_unsureWords rC_unsureWorths)] sz) := by
  refine Met.ofW (cc := cX4_throneValue) (maxL := 2) (ret := (some .int)) pnX4 rfl ?_
  intro p e s m args below meth c s₁ B hml hv
  obtain ⟨rfl, hsz, hP, hK, hD0, hE⟩ := hv
  have hx := B.exec
  have hb := B.bytes
  have hr := B.returns
  have hts : ∀ w ∈ wG, w.before ([.ref oL, .ref oC] : List Value).toArray s = true := fun w h => atoms_spec (ws := Cond.code yX4_throneValue cX4_throneValue 2 (some .int) :: wG) B.pre w (List.mem_cons_of_mem _ h)
  have hown : s.vm.findClass RX4 = some m.cls := own_of B.named rfl
  have hlocks := B.notSynchronized
  subst hsz
  have hD := hD0.self (sz := s.heap.size)
  generalize hAe : va_A [(oc4 oL rL_values rL_supposed), (arI rL_values kL_values 18 fL_values), (oc1 oC iC_nodes iC_words iC_chances iC_unsures iC_slips iC_throneNode iC_saidWorth iC_unit rC_kind rC_parts rC_partNodes rC_weights rC_weightSums rC_toldWorths rC_steps rC_below rC_above rC_unsureWords rC_unsureWorths)] s.heap.size = A at hD hE ⊢
  have hA : ∀ q : Nat, s.heap.size ≤ q → A q := fun q h => by rw [← hAe]; exact Or.inr h
  have hS : va_S A s.heap s.heap [] := va_S.rf
  have hl := lv_entry ([.ref oL, .ref oC]) (n := 2) (Nat.le_of_ble_eq_true rfl)
  rw [lg_entry_eq]
  generalize (lg_sl ([.ref oL, .ref oC]) ++ List.replicate (2 - (lg_sl ([.ref oL, .ref oC])).length) Slot.unset).toArray = ls at hl ⊢
  have hl : lv_has ls 2 [(0, .ref oL), (1, .ref oC)] := hl
  refine lv_aload_n hx hb dX4_throneValue_0 rfl (lv_at hl 1 rfl) ?_
  refine lv_aload_n hx hb dX4_throneValue_1 rfl (lv_at hl 1 rfl) ?_
  refine va_get (D := (dC, dI)) (ci := 1) (v := .int iC_throneNode) (C := RX1) (T := TX1) (N := 19) hx hb hts inX1 hown hK hP 2 rfl rfl 5 (by decide) (hts _ wd_633) (fun _ h9 => h9) rfl dX4_throneValue_2 ?_
  have hMs := ml_of hD [false, false, true] (wc := [(oc1 oC iC_nodes iC_words iC_chances iC_unsures iC_slips iC_throneNode iC_saidWorth iC_unit rC_kind rC_parts rC_partNodes rC_weights rC_weightSums rC_toldWorths rC_steps rC_below rC_above rC_unsureWords rC_unsureWorths)]) rfl
  have hFc := va_freeM hD hS hA _ hMs
  refine va_calli (va_runV (As := [.int iC_throneNode]) (rest := []) ⟨hx, hb, hml, hown, hts⟩ (tX1_hasNode l dC dI _ oC iC_nodes iC_words iC_chances iC_unsures iC_slips iC_throneNode iC_saidWorth iC_unit rC_kind rC_parts rC_partNodes rC_weights rC_weightSums rC_toldWorths rC_steps rC_below rC_above rC_unsureWords rC_unsureWorths iC_throneNode b_iC_nodes b_iC_unsures b_iC_throneNode) (cwV 1 hts (wd_V wd_634 wd_326 wd_327 wd_19 (wd_c wd_328)) rfl rfl rfl dv_yX1_hasNode_1 ⟨Nat.le_of_ble_eq_true rfl, Nat.le_of_ble_eq_true rfl⟩) ⟨Pw.fb, recvX1 hK hP (q0 := 2) rfl, fun U hU hW => Pw.to (hP.ms _ hMs) (hD.ms _ hMs) (hK.ms [false] rfl) hE hS hFc hU hW⟩ rfl rfl hl.1 rfl (lv_room (Nat.le_of_ble_eq_true rfl)) dX4_throneValue_5 ⟨Nat.le_of_ble_eq_true rfl, Nat.le_of_ble_eq_true rfl⟩) hS (fun q _ h => hFc q h) hFc (fun r u t H locs ht hvm hw hB hz1 hk1 hS => ?_)
  have hru9 := hw.2
  have hw := hw.1
  obtain ⟨hP, hD⟩ := Bw.goN (ws' := [(oc4 oL rL_values rL_supposed), (arI rL_values kL_values 18 fL_values), (oc1 oC iC_nodes iC_words iC_chances iC_unsures iC_slips iC_throneNode iC_saidWorth iC_unit rC_kind rC_parts rC_partNodes rC_weights rC_weightSums rC_toldWorths rC_steps rC_below rC_above rC_unsureWords rC_unsureWorths)]) hB rfl ht hP hD _ hMs hk1 hFc rfl
  clear hz1 hk1 hvm ht hB hMs
  rcases hw.2 with ⟨rfl, hc_753⟩ | ⟨rfl, hc_753⟩
  · skip
    refine lv_if_eq (tgt := 23) hx hb dX4_throneValue_8 (by decide) (fun c => absurd c (by decide)) (fun _ => ?_)
    refine lv_aload_n hx hb dX4_throneValue_11 rfl (lv_at hl 0 rfl) ?_
    refine va_get (D := (dC, dI)) (ci := 4) (v := .ref rL_values) (C := RX4) (T := TX4) (N := 2) hx hb hts inX4 hown hK hP 0 rfl rfl 0 (by decide) (hts _ wd_146) (fun _ h9 => h9) rfl dX4_throneValue_12 ?_
    refine lv_aload_n hx hb dX4_throneValue_15 rfl (lv_at hl 1 rfl) ?_
    refine va_get (D := (dC, dI)) (ci := 1) (v := .int iC_throneNode) (C := RX1) (T := TX1) (N := 19) hx hb hts inX1 hown hK hP 2 rfl rfl 5 (by decide) (hts _ wd_633) (fun _ h9 => h9) rfl dX4_throneValue_16 ?_
    refine va_iald hx hb hK hP 1 0 rfl rfl (ti_in rfl hc_753.1 (om_b3735a34 b_iC_throneNode.2)) dX4_throneValue_19 ?_
    refine lv_topi (fun x_755 ex_755 => ?_)
    have kx_755 : (fL_values iC_throneNode.toNatClampNeg).toInt = x_755.toInt := by rw [ex_755]
    refine lv_goto (tgt := 24) hx hb dX4_throneValue_20 (by decide) ?_
    exact wq_i hx hb hr 0 ⟨trivial, trivial⟩ (fun t ht hW => Bw.to hP hD hK ht hW) hS dX4_throneValue_24 hlocks
  · skip
    refine lv_if_eq (tgt := 23) hx hb dX4_throneValue_8 (by decide) (fun _ => ?_) (fun c => absurd c (by decide))
    refine lv_iconst (v := 0) hx hb dX4_throneValue_23 (by decide) ?_
    exact wq_i hx hb hr 0 ⟨trivial, trivial⟩ (fun t ht hW => Bw.to hP hD hK ht hW) hS dX4_throneValue_24 hlocks
set_option maxHeartbeats 4000000 in
set_option maxRecDepth 100000 in
theorem tX4_joined (l : Launch) (dC : Nat → ClassId) (dI : Nat → Nat → Nat) (sz : Nat) (oL : Nat) (rL_values : Nat) (fL_values : Nat → Int32) (kL_values : ClassId) (rL_supposed : Nat) (oC : Nat) (iC_nodes : Int32) (iC_words : Int32) (iC_chances : Int32) (iC_unsures : Int32) (iC_slips : Int32) (iC_throneNode : Int32) (iC_saidWorth : Int32) (iC_unit : Int32) (rC_kind : Nat) (fC_kind : Nat → Int32) (kC_kind : ClassId) (rC_parts : Nat) (fC_parts : Nat → Int32) (kC_parts : ClassId) (rC_partNodes : Nat) (fC_partNodes : Nat → Int32) (kC_partNodes : ClassId) (rC_weights : Nat) (fC_weights : Nat → Int32) (kC_weights : ClassId) (rC_weightSums : Nat) (fC_weightSums : Nat → Int32) (kC_weightSums : ClassId) (rC_toldWorths : Nat) (rC_steps : Nat) (rC_below : Nat) (rC_above : Nat) (rC_unsureWords : Nat) (rC_unsureWorths : Nat) (p0 : Int32) (b_iC_nodes : 0 ≤ iC_nodes.toInt ∧ iC_nodes.toInt ≤ 18) (b_iC_unsures : 0 ≤ iC_unsures.toInt ∧ iC_unsures.toInt ≤ 4) (b_iC_throneNode : (-1) ≤ iC_throneNode.toInt ∧ iC_throneNode.toInt ≤ 17) (a_fC_parts : ∀ j : Nat, j < 18 → 0 ≤ (fC_parts j).toInt ∧ (fC_parts j).toInt ≤ 4) (a_fC_partNodes : ∀ j : Nat, j < 72 → 0 ≤ (fC_partNodes j).toInt ∧ (fC_partNodes j).toInt ≤ 17) (hp0 : 0 ≤ p0.toInt ∧ p0.toInt ≤ 17) : Met l yX4_joined (Cond.code yX4_joined cX4_joined 8 (some .int) :: wG) ({ frames := 1, cells := 0, slots := 0, locals := 21 }) (va_Pc [.ref oL, .ref oC, .int p0] (Pw dC dI sz [(oc4 oL rL_values rL_supposed), (arI rL_values kL_values 18 fL_values), (oc1 oC iC_nodes iC_words iC_chances iC_unsures iC_slips iC_throneNode iC_saidWorth iC_unit rC_kind rC_parts rC_partNodes rC_weights rC_weightSums rC_toldWorths rC_steps rC_below rC_above rC_unsureWords rC_unsureWorths), (arI rC_kind kC_kind 18 fC_kind), (arI rC_parts kC_parts 18 fC_parts), (arI rC_partNodes kC_partNodes 72 fC_partNodes), (arI rC_weights kC_weights 72 fC_weights), (arI rC_weightSums kC_weightSums 18 fC_weightSums)] [(kL_values, .int), (kC_kind, .int), (kC_parts, .int), (kC_partNodes, .int), (kC_weights, .int), (kC_weightSums, .int)])) (va_Qi (fun (r : Int32) (_ : Nat) => True ∧ True) (fun (_ : Nat) (t : State) => Bw dC dI (va_A [(oc4 oL rL_values rL_supposed), (arI rL_values kL_values 18 fL_values), (oc1 oC iC_nodes iC_words iC_chances iC_unsures iC_slips iC_throneNode iC_saidWorth iC_unit rC_kind rC_parts rC_partNodes rC_weights rC_weightSums rC_toldWorths rC_steps rC_below rC_above rC_unsureWords rC_unsureWorths), (arI rC_kind kC_kind 18 fC_kind), (arI rC_parts kC_parts 18 fC_parts), (arI rC_partNodes kC_partNodes 72 fC_partNodes), (arI rC_weights kC_weights 72 fC_weights), (arI rC_weightSums kC_weightSums 18 fC_weightSums)] sz) [(oc4 oL rL_values rL_supposed), (arI rL_values kL_values 18 fL_values), (oc1 oC iC_nodes iC_words iC_chances iC_unsures iC_slips iC_throneNode iC_saidWorth iC_unit rC_kind rC_parts rC_partNodes rC_weights rC_weightSums rC_toldWorths rC_steps rC_below rC_above rC_unsureWords rC_unsureWorths), (arI rC_kind kC_kind 18 fC_kind), (arI rC_parts kC_parts 18 fC_parts), (arI rC_partNodes kC_partNodes 72 fC_partNodes), (arI rC_weights kC_weights 72 fC_weights), (arI rC_weightSums kC_weightSums 18 fC_weightSums)] [(kL_values, .int), (kC_kind, .int), (kC_parts, .int), (kC_partNodes, .int), (kC_weights, .int), (kC_weightSums, .int)] t) (va_A [(oc4 oL rL_values rL_supposed), (arI rL_values kL_values 18 fL_values), (oc1 oC iC_nodes iC_words iC_chances iC_unsures iC_slips iC_throneNode iC_saidWorth iC_unit rC_kind rC_parts rC_partNodes rC_weights rC_weightSums rC_toldWorths rC_steps rC_below rC_above rC_unsureWords rC_unsureWorths), (arI rC_kind kC_kind 18 fC_kind), (arI rC_parts kC_parts 18 fC_parts), (arI rC_partNodes kC_partNodes 72 fC_partNodes), (arI rC_weights kC_weights 72 fC_weights), (arI rC_weightSums kC_weightSums 18 fC_weightSums)] sz)) 0 0 (va_A [(oc4 oL rL_values rL_supposed), (arI rL_values kL_values 18 fL_values), (oc1 oC iC_nodes iC_words iC_chances iC_unsures iC_slips iC_throneNode iC_saidWorth iC_unit rC_kind rC_parts rC_partNodes rC_weights rC_weightSums rC_toldWorths rC_steps rC_below rC_above rC_unsureWords rC_unsureWorths), (arI rC_kind kC_kind 18 fC_kind), (arI rC_parts kC_parts 18 fC_parts), (arI rC_partNodes kC_partNodes 72 fC_partNodes), (arI rC_weights kC_weights 72 fC_weights), (arI rC_weightSums kC_weightSums 18 fC_weightSums)] sz) := by
  refine Met.ofW (cc := cX4_joined) (maxL := 8) (ret := (some .int)) pnX4 rfl ?_
  intro p e s m args below meth c s₁ B hml hv
  obtain ⟨rfl, hsz, hP, hK, hD0, hE⟩ := hv
  have hx := B.exec
  have hb := B.bytes
  have hr := B.returns
  have hts : ∀ w ∈ wG, w.before ([.ref oL, .ref oC, .int p0] : List Value).toArray s = true := fun w h => atoms_spec (ws := Cond.code yX4_joined cX4_joined 8 (some .int) :: wG) B.pre w (List.mem_cons_of_mem _ h)
  have hown : s.vm.findClass RX4 = some m.cls := own_of B.named rfl
  have hlocks := B.notSynchronized
  subst hsz
  have hD := hD0.self (sz := s.heap.size)
  generalize hAe : va_A [(oc4 oL rL_values rL_supposed), (arI rL_values kL_values 18 fL_values), (oc1 oC iC_nodes iC_words iC_chances iC_unsures iC_slips iC_throneNode iC_saidWorth iC_unit rC_kind rC_parts rC_partNodes rC_weights rC_weightSums rC_toldWorths rC_steps rC_below rC_above rC_unsureWords rC_unsureWorths), (arI rC_kind kC_kind 18 fC_kind), (arI rC_parts kC_parts 18 fC_parts), (arI rC_partNodes kC_partNodes 72 fC_partNodes), (arI rC_weights kC_weights 72 fC_weights), (arI rC_weightSums kC_weightSums 18 fC_weightSums)] s.heap.size = A at hD hE ⊢
  have hA : ∀ q : Nat, s.heap.size ≤ q → A q := fun q h => by rw [← hAe]; exact Or.inr h
  have hS : va_S A s.heap s.heap [] := va_S.rf
  have hl := lv_entry ([.ref oL, .ref oC, .int p0]) (n := 8) (Nat.le_of_ble_eq_true rfl)
  rw [lg_entry_eq]
  generalize (lg_sl ([.ref oL, .ref oC, .int p0]) ++ List.replicate (8 - (lg_sl ([.ref oL, .ref oC, .int p0])).length) Slot.unset).toArray = ls at hl ⊢
  have hl : lv_has ls 8 [(0, .ref oL), (1, .ref oC), (2, .int p0)] := hl
  have rg_p0 := fb_rng p0
  refine lv_aload_n hx hb dX4_joined_0 rfl (lv_at hl 1 rfl) ?_
  refine va_get (D := (dC, dI)) (ci := 1) (v := .ref rC_kind) (C := RX1) (T := TX1) (N := 19) hx hb hts inX1 hown hK hP 2 rfl rfl 8 (by decide) (hts _ wd_617) (fun _ h9 => h9) rfl dX4_joined_1 ?_
  refine lv_iload_n hx hb dX4_joined_4 rfl (lv_at hl 2 rfl) ?_
  refine va_iald hx hb hK hP 3 1 rfl rfl (ti_in rfl hp0.1 (om_b3735a34 hp0.2)) dX4_joined_5 ?_
  refine lv_topi (fun x_799 ex_799 => ?_)
  have rg_x_799 := fb_rng x_799
  have kx_799 : (fC_kind p0.toNatClampNeg).toInt = x_799.toInt := by rw [ex_799]
  refine lv_istore_n (lv' := [(3, .int x_799), (0, .ref oL), (1, .ref oC), (2, .int p0)]) hx hb dX4_joined_6 rfl hl (by decide) rfl (fun ls hl => ?_)
  refine lv_iconst (v := 0) hx hb dX4_joined_7 (by decide) ?_
  refine lv_istore (lv' := [(4, .int 0), (3, .int x_799), (0, .ref oL), (1, .ref oC), (2, .int p0)]) hx hb dX4_joined_8 hl (by decide) rfl (fun ls hl => ?_)
  refine lv_iconst (v := 0) hx hb dX4_joined_10 (by decide) ?_
  refine lv_istore (lv' := [(5, .int 0), (4, .int 0), (3, .int x_799), (0, .ref oL), (1, .ref oC), (2, .int p0)]) hx hb dX4_joined_11 hl (by decide) rfl (fun ls hl => ?_)
  have hl := lv_sub hl (l' := [(5, .int 0), (4, .int 0), (3, .int x_799), (0, .ref oL), (1, .ref oC), (2, .int p0)]) [0, 1, 2, 3, 4, 5] rfl
  have key_n_802 : ∀ (n_802 : Nat) (z_800 : Int32) (z_801 : Int32) (H : Heap) (locs : List Loc) (ls : Array Slot), (0 ≤ z_800.toInt ∧ z_800.toInt ≤ 2147483647) → (2147483647 - z_800.toInt).toNat < n_802 → va_P (dC, dI) vwCl [(oc4 oL rL_values rL_supposed), (arI rL_values kL_values 18 fL_values), (oc1 oC iC_nodes iC_words iC_chances iC_unsures iC_slips iC_throneNode iC_saidWorth iC_unit rC_kind rC_parts rC_partNodes rC_weights rC_weightSums rC_toldWorths rC_steps rC_below rC_above rC_unsureWords rC_unsureWorths), (arI rC_kind kC_kind 18 fC_kind), (arI rC_parts kC_parts 18 fC_parts), (arI rC_partNodes kC_partNodes 72 fC_partNodes), (arI rC_weights kC_weights 72 fC_weights), (arI rC_weightSums kC_weightSums 18 fC_weightSums)] H → va_D A [(oc4 oL rL_values rL_supposed), (arI rL_values kL_values 18 fL_values), (oc1 oC iC_nodes iC_words iC_chances iC_unsures iC_slips iC_throneNode iC_saidWorth iC_unit rC_kind rC_parts rC_partNodes rC_weights rC_weightSums rC_toldWorths rC_steps rC_below rC_above rC_unsureWords rC_unsureWorths), (arI rC_kind kC_kind 18 fC_kind), (arI rC_parts kC_parts 18 fC_parts), (arI rC_partNodes kC_partNodes 72 fC_partNodes), (arI rC_weights kC_weights 72 fC_weights), (arI rC_weightSums kC_weightSums 18 fC_weightSums)] → va_S A s.heap H locs → lv_has ls 8 [(5, .int z_800), (4, .int z_801), (3, .int x_799), (0, .ref oL), (1, .ref oC), (2, .int p0)] → W p l e (headSpec (Cond.code yX4_joined cX4_joined 8 (some .int) :: wG) ({ frames := 1, cells := 0, slots := 0, locals := 21 })).room s m ([.ref oL, .ref oC, .int p0] : List Value).toArray below meth c H locs 0 0 (MQ below (va_Qi (fun (r : Int32) (_ : Nat) => True ∧ True) (fun (_ : Nat) (t : State) => Bw dC dI A [(oc4 oL rL_values rL_supposed), (arI rL_values kL_values 18 fL_values), (oc1 oC iC_nodes iC_words iC_chances iC_unsures iC_slips iC_throneNode iC_saidWorth iC_unit rC_kind rC_parts rC_partNodes rC_weights rC_weightSums rC_toldWorths rC_steps rC_below rC_above rC_unsureWords rC_unsureWorths), (arI rC_kind kC_kind 18 fC_kind), (arI rC_parts kC_parts 18 fC_parts), (arI rC_partNodes kC_partNodes 72 fC_partNodes), (arI rC_weights kC_weights 72 fC_weights), (arI rC_weightSums kC_weightSums 18 fC_weightSums)] [(kL_values, .int), (kC_kind, .int), (kC_parts, .int), (kC_partNodes, .int), (kC_weights, .int), (kC_weightSums, .int)] t) A) ([.ref oL, .ref oC, .int p0] : List Value).toArray s 0 0 A) (F0 m 13 ls []) := by
    intro n_802
    induction n_802 with
    | zero => intro z_800 z_801 H locs ls hi0_n_802 hm; exact absurd hm (Nat.not_lt_zero _)
    | succ n_802 ih_n_802 =>
      intro z_800 z_801 H locs ls hi0_n_802 hm_n_802 hP hD hS hl
      have rg_z_800 := fb_rng z_800
      have rg_z_801 := fb_rng z_801
      refine lv_iload hx hb dX4_joined_13 (lv_at hl 0 rfl) ?_
      refine lv_aload_n hx hb dX4_joined_15 rfl (lv_at hl 4 rfl) ?_
      refine va_get (D := (dC, dI)) (ci := 1) (v := .ref rC_parts) (C := RX1) (T := TX1) (N := 19) hx hb hts inX1 hown hK hP 2 rfl rfl 9 (by decide) (hts _ wd_623) (fun _ h9 => h9) rfl dX4_joined_16 ?_
      refine lv_iload_n hx hb dX4_joined_19 rfl (lv_at hl 5 rfl) ?_
      refine va_iald hx hb hK hP 4 2 rfl rfl (ti_in rfl hp0.1 (om_b3735a34 hp0.2)) dX4_joined_20 ?_
      refine lv_topi (fun x_803 ex_803 => ?_)
      have rg_x_803 := fb_rng x_803
      have kx_803 : (fC_parts p0.toNatClampNeg).toInt = x_803.toInt := by rw [ex_803]
      have ux_803 := a_fC_parts p0.toNatClampNeg (cl_lt rfl hp0.1 (om_b3735a34 hp0.2))
      rw [show fC_parts p0.toNatClampNeg = x_803 from ex_803.symm] at ux_803
      refine lv_icmp_ge (tgt := 106) hx hb dX4_joined_21 (by decide) (fun c_804 => ?_) (fun c_804 => ?_)
      · skip
        have gc_804 := ti_le c_804 rfl rfl
        refine lv_iload_n hx hb dX4_joined_106 rfl (lv_at hl 2 rfl) ?_
        refine lv_iconst (v := 3) hx hb dX4_joined_107 (by decide) ?_
        refine lv_icmp_ne (tgt := 125) hx hb dX4_joined_108 (by decide) (fun c_805 => ?_) (fun c_805 => ?_)
        · skip
          have gc_805 := ti_ne c_805 rfl kc_3
          refine lv_iload hx hb dX4_joined_125 (lv_at hl 1 rfl) ?_
          exact wq_i hx hb hr 0 ⟨trivial, trivial⟩ (fun t ht hW => Bw.to hP hD hK ht hW) hS dX4_joined_127 hlocks
        · skip
          have gc_805 := ti_eq c_805 rfl kc_3
          refine lv_iload hx hb dX4_joined_111 (lv_at hl 1 rfl) ?_
          refine lv_aload_n hx hb dX4_joined_113 rfl (lv_at hl 4 rfl) ?_
          refine va_get (D := (dC, dI)) (ci := 1) (v := .ref rC_weightSums) (C := RX1) (T := TX1) (N := 19) hx hb hts inX1 hown hK hP 2 rfl rfl 12 (by decide) (hts _ wd_626) (fun _ h9 => h9) rfl dX4_joined_114 ?_
          refine lv_iload_n hx hb dX4_joined_117 rfl (lv_at hl 5 rfl) ?_
          refine va_iald hx hb hK hP 7 5 rfl rfl (ti_in rfl hp0.1 (om_b3735a34 hp0.2)) dX4_joined_118 ?_
          refine lv_topi (fun x_806 ex_806 => ?_)
          have rg_x_806 := fb_rng x_806
          have kx_806 : (fC_weightSums p0.toNatClampNeg).toInt = x_806.toInt := by rw [ex_806]
          have hFc : ∀ q, va_A [] _ q → A q := fun q h => hA q (Nat.le_trans hS.1 (va_nilA h))
          refine va_calli (va_runSN (As := [.int z_801, .int x_806]) (rest := []) ⟨hx, hb, hml, hown, hts⟩ (tX6_wholeOf l dC dI _ z_801 x_806 ) ⟨va_cnB 2 hts (wd_c wd_628) rfl rfl rfl (hE.2.2.2.1 _ (List.mem_of_getElem? (i := 4) rfl)) (hts _ wd_2) (by decide +kernel) ⟨Nat.le_of_ble_eq_true rfl, Nat.le_of_ble_eq_true rfl⟩, hts _ wd_627, trivial⟩ ⟨Pw.fb, fun U hU hW => Pn.to hK hE hS hA hU hW⟩ rfl rfl hl.1 rfl (lv_room (Nat.le_of_ble_eq_true rfl)) dX4_joined_119 ⟨Nat.le_of_ble_eq_true rfl, Nat.le_of_ble_eq_true rfl⟩) hS (fun q _ h => hFc q h) hFc (fun r u t H locs ht hvm hw hB hz1 hk1 hS => ?_)
          obtain ⟨hP, hD, hK⟩ := Bw.same ht hvm hP hD hK hk1 hFc
          clear hz1 hk1 hvm ht hB
          obtain ⟨x_807, rfl⟩ : ∃ z, z = r := ⟨_, rfl⟩
          have rg_x_807 := fb_rng x_807
          refine lv_goto (tgt := 127) hx hb dX4_joined_122 (by decide) ?_
          exact wq_i hx hb hr 0 ⟨trivial, trivial⟩ (fun t ht hW => Bw.to hP hD hK ht hW) hS dX4_joined_127 hlocks
      · skip
        have gc_804 := ti_nle c_804 rfl rfl
        refine lv_iload_n hx hb dX4_joined_24 rfl (lv_at hl 5 rfl) ?_
        refine lv_iconst (v := 4) hx hb dX4_joined_25 (by decide) ?_
        refine lv_imul hx hb dX4_joined_26 ?_
        refine lv_topi (fun x_808 ex_808 => ?_)
        have vx_808 : x_808.toInt = 4 * p0.toInt := by have q := ti_mul ex_808 rfl kc_4 (by omega) (by omega); omega
        refine lv_iload hx hb dX4_joined_27 (lv_at hl 0 rfl) ?_
        refine lv_iadd hx hb dX4_joined_29 ?_
        refine lv_topi (fun x_809 ex_809 => ?_)
        have vx_809 : x_809.toInt = 4 * p0.toInt + z_800.toInt := om_5d0caf0f (ti_add ex_809 vx_808 rfl (om_056a216f hp0.1 hi0_n_802.1) (om_be3e613d hp0.2 ux_803.2 gc_804))
        refine lv_istore (lv' := [(6, .int x_809), (5, .int z_800), (4, .int z_801), (3, .int x_799), (0, .ref oL), (1, .ref oC), (2, .int p0)]) hx hb dX4_joined_30 hl (by decide) rfl (fun ls hl => ?_)
        refine lv_aload_n hx hb dX4_joined_32 rfl (lv_at hl 4 rfl) ?_
        refine va_get (D := (dC, dI)) (ci := 4) (v := .ref rL_values) (C := RX4) (T := TX4) (N := 2) hx hb hts inX4 hown hK hP 0 rfl rfl 0 (by decide) (hts _ wd_146) (fun _ h9 => h9) rfl dX4_joined_33 ?_
        refine lv_aload_n hx hb dX4_joined_36 rfl (lv_at hl 5 rfl) ?_
        refine va_get (D := (dC, dI)) (ci := 1) (v := .ref rC_partNodes) (C := RX1) (T := TX1) (N := 19) hx hb hts inX1 hown hK hP 2 rfl rfl 10 (by decide) (hts _ wd_624) (fun _ h9 => h9) rfl dX4_joined_37 ?_
        refine lv_iload hx hb dX4_joined_40 (lv_at hl 0 rfl) ?_
        refine va_iald hx hb hK hP 5 3 rfl rfl (ti_in vx_809 (om_fc2812d4 hp0.1 hi0_n_802.1) (om_b7e30450 hp0.2 ux_803.2 gc_804)) dX4_joined_42 ?_
        refine lv_topi (fun x_810 ex_810 => ?_)
        have rg_x_810 := fb_rng x_810
        have kx_810 : (fC_partNodes x_809.toNatClampNeg).toInt = x_810.toInt := by rw [ex_810]
        have ux_810 := a_fC_partNodes x_809.toNatClampNeg (cl_lt vx_809 (om_fc2812d4 hp0.1 hi0_n_802.1) (om_b7e30450 hp0.2 ux_803.2 gc_804))
        rw [show fC_partNodes x_809.toNatClampNeg = x_810 from ex_810.symm] at ux_810
        refine va_iald hx hb hK hP 1 0 rfl rfl (ti_in rfl ux_810.1 (om_b3735a34 ux_810.2)) dX4_joined_43 ?_
        refine lv_topi (fun x_811 ex_811 => ?_)
        have rg_x_811 := fb_rng x_811
        have kx_811 : (fL_values x_810.toNatClampNeg).toInt = x_811.toInt := by rw [ex_811]
        refine lv_istore (lv' := [(7, .int x_811), (6, .int x_809), (5, .int z_800), (4, .int z_801), (3, .int x_799), (0, .ref oL), (1, .ref oC), (2, .int p0)]) hx hb dX4_joined_44 hl (by decide) rfl (fun ls hl => ?_)
        refine lv_iload_n hx hb dX4_joined_46 rfl (lv_at hl 4 rfl) ?_
        refine lv_iconst (v := 3) hx hb dX4_joined_47 (by decide) ?_
        refine lv_icmp_ne (tgt := 69) hx hb dX4_joined_48 (by decide) (fun c_812 => ?_) (fun c_812 => ?_)
        · skip
          have gc_812 := ti_ne c_812 rfl kc_3
          refine lv_iload hx hb dX4_joined_69 (lv_at hl 2 rfl) ?_
          refine lv_if_eq (tgt := 96) hx hb dX4_joined_71 (by decide) (fun c_813 => ?_) (fun c_813 => ?_)
          · skip
            have gc_813 := ti_eq c_813 rfl kc_0
            refine lv_iload hx hb dX4_joined_96 (lv_at hl 0 rfl) ?_
            refine lv_istore (lv' := [(4, .int x_811), (7, .int x_811), (6, .int x_809), (5, .int z_800), (3, .int x_799), (0, .ref oL), (1, .ref oC), (2, .int p0)]) hx hb dX4_joined_98 hl (by decide) rfl (fun ls hl => ?_)
            obtain ⟨x_814, ex_814⟩ : ∃ z : Int32, z = z_800 + Int32.ofInt 1 := ⟨_, rfl⟩
            have vx_814 : x_814.toInt = z_800.toInt + 1 := ti_add (y := 1) ex_814 rfl kc_1 (om_4e4fce7e hi0_n_802.1) (om_f4fb5b9a gc_813)
            refine lv_iinc (v := x_814) (lv' := [(5, .int x_814), (4, .int x_811), (7, .int x_811), (6, .int x_809), (3, .int x_799), (0, .ref oL), (1, .ref oC), (2, .int p0)]) hx hb dX4_joined_100 hl (k := 3) rfl ex_814.symm (by decide) rfl (fun ls hl => ?_)
            refine lv_goto (tgt := 13) hx hb dX4_joined_103 (by decide) ?_
            exact ih_n_802 x_814 x_811 _ _ _  ⟨(om_83b90de5 hi0_n_802.1 vx_814), (om_b8edbab1 gc_813 vx_814)⟩ (ms_lt hm_n_802 (om_b9393183 vx_814) (om_ec9d7b39 gc_813)) hP hD hS (lv_sub hl [0, 1, 4, 5, 6, 7] rfl)
          · skip
            have gc_813 := ti_ne c_813 rfl kc_0
            refine lv_iload_n hx hb dX4_joined_74 rfl (lv_at hl 4 rfl) ?_
            refine lv_iconst (v := 1) hx hb dX4_joined_75 (by decide) ?_
            refine lv_icmp_ne (tgt := 89) hx hb dX4_joined_76 (by decide) (fun c_815 => ?_) (fun c_815 => ?_)
            · skip
              have gc_815 := ti_ne c_815 rfl kc_1
              refine lv_iload hx hb dX4_joined_89 (lv_at hl 0 rfl) ?_
              refine lv_iload hx hb dX4_joined_91 (lv_at hl 3 rfl) ?_
              refine lv_icmp_ge (tgt := 100) hx hb dX4_joined_93 (by decide) (fun c_816 => ?_) (fun c_816 => ?_)
              · skip
                have gc_816 := ti_le c_816 rfl rfl
                obtain ⟨x_817, ex_817⟩ : ∃ z : Int32, z = z_800 + Int32.ofInt 1 := ⟨_, rfl⟩
                have vx_817 : x_817.toInt = z_800.toInt + 1 := ti_add (y := 1) ex_817 rfl kc_1 (om_4e4fce7e hi0_n_802.1) (om_0ca29412 ux_803.2 gc_804)
                refine lv_iinc (v := x_817) (lv' := [(5, .int x_817), (7, .int x_811), (6, .int x_809), (4, .int z_801), (3, .int x_799), (0, .ref oL), (1, .ref oC), (2, .int p0)]) hx hb dX4_joined_100 hl (k := 2) rfl ex_817.symm (by decide) rfl (fun ls hl => ?_)
                refine lv_goto (tgt := 13) hx hb dX4_joined_103 (by decide) ?_
                exact ih_n_802 x_817 z_801 _ _ _  ⟨(om_83b90de5 hi0_n_802.1 vx_817), (om_008057e4 ux_803.2 gc_804 vx_817)⟩ (ms_lt hm_n_802 (om_b9393183 vx_817) (om_349eab4e ux_803.2 gc_804)) hP hD hS (lv_sub hl [0, 3, 4, 5, 6, 7] rfl)
              · skip
                have gc_816 := ti_nle c_816 rfl rfl
                refine lv_iload hx hb dX4_joined_96 (lv_at hl 0 rfl) ?_
                refine lv_istore (lv' := [(4, .int x_811), (7, .int x_811), (6, .int x_809), (5, .int z_800), (3, .int x_799), (0, .ref oL), (1, .ref oC), (2, .int p0)]) hx hb dX4_joined_98 hl (by decide) rfl (fun ls hl => ?_)
                obtain ⟨x_818, ex_818⟩ : ∃ z : Int32, z = z_800 + Int32.ofInt 1 := ⟨_, rfl⟩
                have vx_818 : x_818.toInt = z_800.toInt + 1 := ti_add (y := 1) ex_818 rfl kc_1 (om_4e4fce7e hi0_n_802.1) (om_0ca29412 ux_803.2 gc_804)
                refine lv_iinc (v := x_818) (lv' := [(5, .int x_818), (4, .int x_811), (7, .int x_811), (6, .int x_809), (3, .int x_799), (0, .ref oL), (1, .ref oC), (2, .int p0)]) hx hb dX4_joined_100 hl (k := 3) rfl ex_818.symm (by decide) rfl (fun ls hl => ?_)
                refine lv_goto (tgt := 13) hx hb dX4_joined_103 (by decide) ?_
                exact ih_n_802 x_818 x_811 _ _ _  ⟨(om_83b90de5 hi0_n_802.1 vx_818), (om_008057e4 ux_803.2 gc_804 vx_818)⟩ (ms_lt hm_n_802 (om_b9393183 vx_818) (om_349eab4e ux_803.2 gc_804)) hP hD hS (lv_sub hl [0, 1, 4, 5, 6, 7] rfl)
            · skip
              have gc_815 := ti_eq c_815 rfl kc_1
              refine lv_iload hx hb dX4_joined_79 (lv_at hl 0 rfl) ?_
              refine lv_iload hx hb dX4_joined_81 (lv_at hl 3 rfl) ?_
              refine lv_icmp_le (tgt := 100) hx hb dX4_joined_83 (by decide) (fun c_819 => ?_) (fun c_819 => ?_)
              · skip
                have gc_819 := ti_le c_819 rfl rfl
                obtain ⟨x_820, ex_820⟩ : ∃ z : Int32, z = z_800 + Int32.ofInt 1 := ⟨_, rfl⟩
                have vx_820 : x_820.toInt = z_800.toInt + 1 := ti_add (y := 1) ex_820 rfl kc_1 (om_4e4fce7e hi0_n_802.1) (om_0ca29412 ux_803.2 gc_804)
                refine lv_iinc (v := x_820) (lv' := [(5, .int x_820), (7, .int x_811), (6, .int x_809), (4, .int z_801), (3, .int x_799), (0, .ref oL), (1, .ref oC), (2, .int p0)]) hx hb dX4_joined_100 hl (k := 2) rfl ex_820.symm (by decide) rfl (fun ls hl => ?_)
                refine lv_goto (tgt := 13) hx hb dX4_joined_103 (by decide) ?_
                exact ih_n_802 x_820 z_801 _ _ _  ⟨(om_83b90de5 hi0_n_802.1 vx_820), (om_008057e4 ux_803.2 gc_804 vx_820)⟩ (ms_lt hm_n_802 (om_b9393183 vx_820) (om_349eab4e ux_803.2 gc_804)) hP hD hS (lv_sub hl [0, 3, 4, 5, 6, 7] rfl)
              · skip
                have gc_819 := ti_nle c_819 rfl rfl
                refine lv_goto (tgt := 96) hx hb dX4_joined_86 (by decide) ?_
                refine lv_iload hx hb dX4_joined_96 (lv_at hl 0 rfl) ?_
                refine lv_istore (lv' := [(4, .int x_811), (7, .int x_811), (6, .int x_809), (5, .int z_800), (3, .int x_799), (0, .ref oL), (1, .ref oC), (2, .int p0)]) hx hb dX4_joined_98 hl (by decide) rfl (fun ls hl => ?_)
                obtain ⟨x_821, ex_821⟩ : ∃ z : Int32, z = z_800 + Int32.ofInt 1 := ⟨_, rfl⟩
                have vx_821 : x_821.toInt = z_800.toInt + 1 := ti_add (y := 1) ex_821 rfl kc_1 (om_4e4fce7e hi0_n_802.1) (om_0ca29412 ux_803.2 gc_804)
                refine lv_iinc (v := x_821) (lv' := [(5, .int x_821), (4, .int x_811), (7, .int x_811), (6, .int x_809), (3, .int x_799), (0, .ref oL), (1, .ref oC), (2, .int p0)]) hx hb dX4_joined_100 hl (k := 3) rfl ex_821.symm (by decide) rfl (fun ls hl => ?_)
                refine lv_goto (tgt := 13) hx hb dX4_joined_103 (by decide) ?_
                exact ih_n_802 x_821 x_811 _ _ _  ⟨(om_83b90de5 hi0_n_802.1 vx_821), (om_008057e4 ux_803.2 gc_804 vx_821)⟩ (ms_lt hm_n_802 (om_b9393183 vx_821) (om_349eab4e ux_803.2 gc_804)) hP hD hS (lv_sub hl [0, 1, 4, 5, 6, 7] rfl)
        · skip
          have gc_812 := ti_eq c_812 rfl kc_3
          refine lv_iload hx hb dX4_joined_51 (lv_at hl 3 rfl) ?_
          refine lv_iload hx hb dX4_joined_53 (lv_at hl 0 rfl) ?_
          refine lv_aload_n hx hb dX4_joined_55 rfl (lv_at hl 6 rfl) ?_
          refine va_get (D := (dC, dI)) (ci := 1) (v := .ref rC_weights) (C := RX1) (T := TX1) (N := 19) hx hb hts inX1 hown hK hP 2 rfl rfl 11 (by decide) (hts _ wd_625) (fun _ h9 => h9) rfl dX4_joined_56 ?_
          refine lv_iload hx hb dX4_joined_59 (lv_at hl 1 rfl) ?_
          refine va_iald hx hb hK hP 6 4 rfl rfl (ti_in vx_809 (om_fc2812d4 hp0.1 hi0_n_802.1) (om_b7e30450 hp0.2 ux_803.2 gc_804)) dX4_joined_61 ?_
          refine lv_topi (fun x_822 ex_822 => ?_)
          have rg_x_822 := fb_rng x_822
          have kx_822 : (fC_weights x_809.toNatClampNeg).toInt = x_822.toInt := by rw [ex_822]
          refine lv_imul hx hb dX4_joined_62 ?_
          refine lv_topi (fun x_823 ex_823 => ?_)
          have rg_x_823 := fb_rng x_823
          refine lv_iadd hx hb dX4_joined_63 ?_
          refine lv_topi (fun x_824 ex_824 => ?_)
          have rg_x_824 := fb_rng x_824
          refine lv_istore (lv' := [(4, .int x_824), (7, .int x_811), (6, .int x_809), (5, .int z_800), (3, .int x_799), (0, .ref oL), (1, .ref oC), (2, .int p0)]) hx hb dX4_joined_64 hl (by decide) rfl (fun ls hl => ?_)
          refine lv_goto (tgt := 100) hx hb dX4_joined_66 (by decide) ?_
          obtain ⟨x_825, ex_825⟩ : ∃ z : Int32, z = z_800 + Int32.ofInt 1 := ⟨_, rfl⟩
          have vx_825 : x_825.toInt = z_800.toInt + 1 := ti_add (y := 1) ex_825 rfl kc_1 (om_4e4fce7e hi0_n_802.1) (om_0ca29412 ux_803.2 gc_804)
          refine lv_iinc (v := x_825) (lv' := [(5, .int x_825), (4, .int x_824), (7, .int x_811), (6, .int x_809), (3, .int x_799), (0, .ref oL), (1, .ref oC), (2, .int p0)]) hx hb dX4_joined_100 hl (k := 3) rfl ex_825.symm (by decide) rfl (fun ls hl => ?_)
          refine lv_goto (tgt := 13) hx hb dX4_joined_103 (by decide) ?_
          exact ih_n_802 x_825 x_824 _ _ _  ⟨(om_83b90de5 hi0_n_802.1 vx_825), (om_008057e4 ux_803.2 gc_804 vx_825)⟩ (ms_lt hm_n_802 (om_b9393183 vx_825) (om_349eab4e ux_803.2 gc_804)) hP hD hS (lv_sub hl [0, 1, 4, 5, 6, 7] rfl)
  exact key_n_802 (((2147483647 - (0 : Int32).toInt).toNat) + 1) 0 0 _ _ _  ⟨(om_b1de7dbe kc_0), (om_daf17c64 kc_0)⟩ (Nat.lt_add_one _) hP hD hS hl
set_option maxHeartbeats 4000000 in
set_option maxRecDepth 100000 in
theorem tX4_weighAll (l : Launch) (dC : Nat → ClassId) (dI : Nat → Nat → Nat) (sz : Nat) (oL : Nat) (rL_values : Nat) (fL_values : Nat → Int32) (kL_values : ClassId) (rL_supposed : Nat) (oC : Nat) (iC_nodes : Int32) (iC_words : Int32) (iC_chances : Int32) (iC_unsures : Int32) (iC_slips : Int32) (iC_throneNode : Int32) (iC_saidWorth : Int32) (iC_unit : Int32) (rC_kind : Nat) (fC_kind : Nat → Int32) (kC_kind : ClassId) (rC_parts : Nat) (fC_parts : Nat → Int32) (kC_parts : ClassId) (rC_partNodes : Nat) (fC_partNodes : Nat → Int32) (kC_partNodes : ClassId) (rC_weights : Nat) (fC_weights : Nat → Int32) (kC_weights : ClassId) (rC_weightSums : Nat) (fC_weightSums : Nat → Int32) (kC_weightSums : ClassId) (rC_toldWorths : Nat) (rC_steps : Nat) (rC_below : Nat) (rC_above : Nat) (rC_unsureWords : Nat) (rC_unsureWorths : Nat) (rW : Nat) (fW : Nat → Int32) (kW : ClassId) (b_iC_nodes : 0 ≤ iC_nodes.toInt ∧ iC_nodes.toInt ≤ 18) (b_iC_unsures : 0 ≤ iC_unsures.toInt ∧ iC_unsures.toInt ≤ 4) (b_iC_throneNode : (-1) ≤ iC_throneNode.toInt ∧ iC_throneNode.toInt ≤ 17) (a_fC_parts : ∀ j : Nat, j < 18 → 0 ≤ (fC_parts j).toInt ∧ (fC_parts j).toInt ≤ 4) (a_fC_partNodes : ∀ j : Nat, j < 72 → 0 ≤ (fC_partNodes j).toInt ∧ (fC_partNodes j).toInt ≤ 17)  : Met l yX4_weighAll (Cond.code yX4_weighAll cX4_weighAll 4 (some .int) :: wG) ({ frames := 2, cells := 0, slots := 0, locals := 48 }) (va_Pc [.ref oL, .ref oC, .ref rW] (Pw dC dI sz [(oc4 oL rL_values rL_supposed), (arI rL_values kL_values 18 fL_values), (oc1 oC iC_nodes iC_words iC_chances iC_unsures iC_slips iC_throneNode iC_saidWorth iC_unit rC_kind rC_parts rC_partNodes rC_weights rC_weightSums rC_toldWorths rC_steps rC_below rC_above rC_unsureWords rC_unsureWorths), (arI rC_kind kC_kind 18 fC_kind), (arI rC_parts kC_parts 18 fC_parts), (arI rC_partNodes kC_partNodes 72 fC_partNodes), (arI rC_weights kC_weights 72 fC_weights), (arI rC_weightSums kC_weightSums 18 fC_weightSums), (arI rW kW 18 fW)] [(kL_values, .int), (kC_kind, .int), (kC_parts, .int), (kC_partNodes, .int), (kC_weights, .int), (kC_weightSums, .int), (kW, .int)])) (va_Qi (fun (r : Int32) (_ : Nat) => True ∧ True) (fun (_ : Nat) (t : State) => ∃ (nfL_values : Nat → Int32), Bw dC dI (va_A [(oc4 oL rL_values rL_supposed), (arI rL_values kL_values 18 fL_values), (oc1 oC iC_nodes iC_words iC_chances iC_unsures iC_slips iC_throneNode iC_saidWorth iC_unit rC_kind rC_parts rC_partNodes rC_weights rC_weightSums rC_toldWorths rC_steps rC_below rC_above rC_unsureWords rC_unsureWorths), (arI rC_kind kC_kind 18 fC_kind), (arI rC_parts kC_parts 18 fC_parts), (arI rC_partNodes kC_partNodes 72 fC_partNodes), (arI rC_weights kC_weights 72 fC_weights), (arI rC_weightSums kC_weightSums 18 fC_weightSums), (arI rW kW 18 fW)] sz) [(oc4 oL rL_values rL_supposed), (arI rL_values kL_values 18 nfL_values), (oc1 oC iC_nodes iC_words iC_chances iC_unsures iC_slips iC_throneNode iC_saidWorth iC_unit rC_kind rC_parts rC_partNodes rC_weights rC_weightSums rC_toldWorths rC_steps rC_below rC_above rC_unsureWords rC_unsureWorths), (arI rC_kind kC_kind 18 fC_kind), (arI rC_parts kC_parts 18 fC_parts), (arI rC_partNodes kC_partNodes 72 fC_partNodes), (arI rC_weights kC_weights 72 fC_weights), (arI rC_weightSums kC_weightSums 18 fC_weightSums), (arI rW kW 18 fW)] [(kL_values, .int), (kC_kind, .int), (kC_parts, .int), (kC_partNodes, .int), (kC_weights, .int), (kC_weightSums, .int), (kW, .int)] t) (va_A [(oc4 oL rL_values rL_supposed), (arI rL_values kL_values 18 fL_values), (oc1 oC iC_nodes iC_words iC_chances iC_unsures iC_slips iC_throneNode iC_saidWorth iC_unit rC_kind rC_parts rC_partNodes rC_weights rC_weightSums rC_toldWorths rC_steps rC_below rC_above rC_unsureWords rC_unsureWorths), (arI rC_kind kC_kind 18 fC_kind), (arI rC_parts kC_parts 18 fC_parts), (arI rC_partNodes kC_partNodes 72 fC_partNodes), (arI rC_weights kC_weights 72 fC_weights), (arI rC_weightSums kC_weightSums 18 fC_weightSums), (arI rW kW 18 fW)] sz)) 0 0 (va_A [(oc4 oL rL_values rL_supposed), (arI rL_values kL_values 18 fL_values), (oc1 oC iC_nodes iC_words iC_chances iC_unsures iC_slips iC_throneNode iC_saidWorth iC_unit rC_kind rC_parts rC_partNodes rC_weights rC_weightSums rC_toldWorths rC_steps rC_below rC_above rC_unsureWords rC_unsureWorths), (arI rC_kind kC_kind 18 fC_kind), (arI rC_parts kC_parts 18 fC_parts), (arI rC_partNodes kC_partNodes 72 fC_partNodes), (arI rC_weights kC_weights 72 fC_weights), (arI rC_weightSums kC_weightSums 18 fC_weightSums), (arI rW kW 18 fW)] sz) := by
  refine Met.ofW (cc := cX4_weighAll) (maxL := 4) (ret := (some .int)) pnX4 rfl ?_
  intro p e s m args below meth c s₁ B hml hv
  obtain ⟨rfl, hsz, hP, hK, hD0, hE⟩ := hv
  have hx := B.exec
  have hb := B.bytes
  have hr := B.returns
  have hts : ∀ w ∈ wG, w.before ([.ref oL, .ref oC, .ref rW] : List Value).toArray s = true := fun w h => atoms_spec (ws := Cond.code yX4_weighAll cX4_weighAll 4 (some .int) :: wG) B.pre w (List.mem_cons_of_mem _ h)
  have hown : s.vm.findClass RX4 = some m.cls := own_of B.named rfl
  have hlocks := B.notSynchronized
  subst hsz
  have hD := hD0.self (sz := s.heap.size)
  generalize hAe : va_A [(oc4 oL rL_values rL_supposed), (arI rL_values kL_values 18 fL_values), (oc1 oC iC_nodes iC_words iC_chances iC_unsures iC_slips iC_throneNode iC_saidWorth iC_unit rC_kind rC_parts rC_partNodes rC_weights rC_weightSums rC_toldWorths rC_steps rC_below rC_above rC_unsureWords rC_unsureWorths), (arI rC_kind kC_kind 18 fC_kind), (arI rC_parts kC_parts 18 fC_parts), (arI rC_partNodes kC_partNodes 72 fC_partNodes), (arI rC_weights kC_weights 72 fC_weights), (arI rC_weightSums kC_weightSums 18 fC_weightSums), (arI rW kW 18 fW)] s.heap.size = A at hD hE ⊢
  have hA : ∀ q : Nat, s.heap.size ≤ q → A q := fun q h => by rw [← hAe]; exact Or.inr h
  have hS : va_S A s.heap s.heap [] := va_S.rf
  have hl := lv_entry ([.ref oL, .ref oC, .ref rW]) (n := 4) (Nat.le_of_ble_eq_true rfl)
  rw [lg_entry_eq]
  generalize (lg_sl ([.ref oL, .ref oC, .ref rW]) ++ List.replicate (4 - (lg_sl ([.ref oL, .ref oC, .ref rW])).length) Slot.unset).toArray = ls at hl ⊢
  have hl : lv_has ls 4 [(0, .ref oL), (1, .ref oC), (2, .ref rW)] := hl
  refine lv_iconst (v := 0) hx hb dX4_weighAll_0 (by decide) ?_
  refine lv_istore_n (lv' := [(3, .int 0), (0, .ref oL), (1, .ref oC), (2, .ref rW)]) hx hb dX4_weighAll_1 rfl hl (by decide) rfl (fun ls hl => ?_)
  have hl := lv_sub hl (l' := [(3, .int 0), (0, .ref oL), (1, .ref oC), (2, .ref rW)]) [0, 1, 2, 3] rfl
  have key_n_851 : ∀ (n_851 : Nat) (z_849 : Int32) (f_850 : Nat → Int32) (H : Heap) (locs : List Loc) (ls : Array Slot), (0 ≤ z_849.toInt ∧ z_849.toInt ≤ 2147483647) → (2147483647 - z_849.toInt).toNat < n_851 → va_P (dC, dI) vwCl [(oc4 oL rL_values rL_supposed), (arI rL_values kL_values 18 f_850), (oc1 oC iC_nodes iC_words iC_chances iC_unsures iC_slips iC_throneNode iC_saidWorth iC_unit rC_kind rC_parts rC_partNodes rC_weights rC_weightSums rC_toldWorths rC_steps rC_below rC_above rC_unsureWords rC_unsureWorths), (arI rC_kind kC_kind 18 fC_kind), (arI rC_parts kC_parts 18 fC_parts), (arI rC_partNodes kC_partNodes 72 fC_partNodes), (arI rC_weights kC_weights 72 fC_weights), (arI rC_weightSums kC_weightSums 18 fC_weightSums), (arI rW kW 18 fW)] H → va_D A [(oc4 oL rL_values rL_supposed), (arI rL_values kL_values 18 f_850), (oc1 oC iC_nodes iC_words iC_chances iC_unsures iC_slips iC_throneNode iC_saidWorth iC_unit rC_kind rC_parts rC_partNodes rC_weights rC_weightSums rC_toldWorths rC_steps rC_below rC_above rC_unsureWords rC_unsureWorths), (arI rC_kind kC_kind 18 fC_kind), (arI rC_parts kC_parts 18 fC_parts), (arI rC_partNodes kC_partNodes 72 fC_partNodes), (arI rC_weights kC_weights 72 fC_weights), (arI rC_weightSums kC_weightSums 18 fC_weightSums), (arI rW kW 18 fW)] → va_S A s.heap H locs → lv_has ls 4 [(3, .int z_849), (0, .ref oL), (1, .ref oC), (2, .ref rW)] → W p l e (headSpec (Cond.code yX4_weighAll cX4_weighAll 4 (some .int) :: wG) ({ frames := 2, cells := 0, slots := 0, locals := 48 })).room s m ([.ref oL, .ref oC, .ref rW] : List Value).toArray below meth c H locs 0 0 (MQ below (va_Qi (fun (r : Int32) (_ : Nat) => True ∧ True) (fun (_ : Nat) (t : State) => ∃ (nfL_values : Nat → Int32), Bw dC dI A [(oc4 oL rL_values rL_supposed), (arI rL_values kL_values 18 nfL_values), (oc1 oC iC_nodes iC_words iC_chances iC_unsures iC_slips iC_throneNode iC_saidWorth iC_unit rC_kind rC_parts rC_partNodes rC_weights rC_weightSums rC_toldWorths rC_steps rC_below rC_above rC_unsureWords rC_unsureWorths), (arI rC_kind kC_kind 18 fC_kind), (arI rC_parts kC_parts 18 fC_parts), (arI rC_partNodes kC_partNodes 72 fC_partNodes), (arI rC_weights kC_weights 72 fC_weights), (arI rC_weightSums kC_weightSums 18 fC_weightSums), (arI rW kW 18 fW)] [(kL_values, .int), (kC_kind, .int), (kC_parts, .int), (kC_partNodes, .int), (kC_weights, .int), (kC_weightSums, .int), (kW, .int)] t) A) ([.ref oL, .ref oC, .ref rW] : List Value).toArray s 0 0 A) (F0 m 2 ls []) := by
    intro n_851
    induction n_851 with
    | zero => intro z_849 f_850 H locs ls hi0_n_851 hm; exact absurd hm (Nat.not_lt_zero _)
    | succ n_851 ih_n_851 =>
      intro z_849 f_850 H locs ls hi0_n_851 hm_n_851 hP hD hS hl
      have rg_z_849 := fb_rng z_849
      refine lv_iload_n hx hb dX4_weighAll_2 rfl (lv_at hl 0 rfl) ?_
      refine lv_aload_n hx hb dX4_weighAll_3 rfl (lv_at hl 2 rfl) ?_
      refine va_get (D := (dC, dI)) (ci := 1) (v := .int iC_nodes) (C := RX1) (T := TX1) (N := 19) hx hb hts inX1 hown hK hP 2 rfl rfl 0 (by decide) (hts _ wd_616) (fun _ h9 => h9) rfl dX4_weighAll_4 ?_
      have rg_iC_nodes := fb_rng iC_nodes
      refine lv_icmp_ge (tgt := 48) hx hb dX4_weighAll_7 (by decide) (fun c_852 => ?_) (fun c_852 => ?_)
      · skip
        have gc_852 := ti_le c_852 rfl rfl
        refine lv_aload_n hx hb dX4_weighAll_48 rfl (lv_at hl 1 rfl) ?_
        refine lv_aload_n hx hb dX4_weighAll_49 rfl (lv_at hl 2 rfl) ?_
        have hMs := ml_of hD [true, true, true, false, false, false, false, false, false] (wc := [(oc4 oL rL_values rL_supposed), (arI rL_values kL_values 18 f_850), (oc1 oC iC_nodes iC_words iC_chances iC_unsures iC_slips iC_throneNode iC_saidWorth iC_unit rC_kind rC_parts rC_partNodes rC_weights rC_weightSums rC_toldWorths rC_steps rC_below rC_above rC_unsureWords rC_unsureWorths)]) rfl
        have hFc := va_freeM hD hS hA _ hMs
        refine va_calli (va_runV (As := [.ref oC]) (rest := []) ⟨hx, hb, hml, hown, hts⟩ (tX4_throneValue l dC dI _ oL rL_values f_850 kL_values rL_supposed oC iC_nodes iC_words iC_chances iC_unsures iC_slips iC_throneNode iC_saidWorth iC_unit rC_kind rC_parts rC_partNodes rC_weights rC_weightSums rC_toldWorths rC_steps rC_below rC_above rC_unsureWords rC_unsureWorths b_iC_nodes b_iC_unsures b_iC_throneNode) (cwV 1 hts (wd_V wd_629 wd_630 wd_631 wd_37 (wd_c wd_632)) rfl rfl rfl dv_yX4_throneValue_1 ⟨Nat.le_of_ble_eq_true rfl, Nat.le_of_ble_eq_true rfl⟩) ⟨Pw.fb, recvX4 hK hP (q0 := 0) rfl, fun U hU hW => Pw.to (hP.ms _ hMs) (hD.ms _ hMs) (hK.ms [true, false, false, false, false, false, false] rfl) hE hS hFc hU hW⟩ rfl rfl hl.1 rfl (lv_room (Nat.le_of_ble_eq_true rfl)) dX4_weighAll_50 ⟨Nat.le_of_ble_eq_true rfl, Nat.le_of_ble_eq_true rfl⟩) hS (fun q _ h => hFc q h) hFc (fun r u t H locs ht hvm hw hB hz1 hk1 hS => ?_)
        obtain ⟨hP, hD⟩ := Bw.goN (ws' := [(oc4 oL rL_values rL_supposed), (arI rL_values kL_values 18 f_850), (oc1 oC iC_nodes iC_words iC_chances iC_unsures iC_slips iC_throneNode iC_saidWorth iC_unit rC_kind rC_parts rC_partNodes rC_weights rC_weightSums rC_toldWorths rC_steps rC_below rC_above rC_unsureWords rC_unsureWorths), (arI rC_kind kC_kind 18 fC_kind), (arI rC_parts kC_parts 18 fC_parts), (arI rC_partNodes kC_partNodes 72 fC_partNodes), (arI rC_weights kC_weights 72 fC_weights), (arI rC_weightSums kC_weightSums 18 fC_weightSums), (arI rW kW 18 fW)]) hB rfl ht hP hD _ hMs hk1 hFc rfl
        clear hz1 hk1 hvm ht hB hMs
        obtain ⟨x_853, rfl⟩ : ∃ z, z = r := ⟨_, rfl⟩
        have rg_x_853 := fb_rng x_853
        exact wq_i hx hb hr 0 ⟨trivial, trivial⟩ (fun t ht hW => ⟨f_850, Bw.to hP hD hK ht hW⟩) hS dX4_weighAll_53 hlocks
      · skip
        have gc_852 := ti_nle c_852 rfl rfl
        refine lv_aload_n hx hb dX4_weighAll_10 rfl (lv_at hl 1 rfl) ?_
        refine va_get (D := (dC, dI)) (ci := 4) (v := .ref rL_values) (C := RX4) (T := TX4) (N := 2) hx hb hts inX4 hown hK hP 0 rfl rfl 0 (by decide) (hts _ wd_146) (fun _ h9 => h9) rfl dX4_weighAll_11 ?_
        refine lv_iload_n hx hb dX4_weighAll_14 rfl (lv_at hl 0 rfl) ?_
        refine lv_aload_n hx hb dX4_weighAll_15 rfl (lv_at hl 2 rfl) ?_
        refine va_get (D := (dC, dI)) (ci := 1) (v := .ref rC_kind) (C := RX1) (T := TX1) (N := 19) hx hb hts inX1 hown hK hP 2 rfl rfl 8 (by decide) (hts _ wd_617) (fun _ h9 => h9) rfl dX4_weighAll_16 ?_
        refine lv_iload_n hx hb dX4_weighAll_19 rfl (lv_at hl 0 rfl) ?_
        refine va_iald hx hb hK hP 3 1 rfl rfl (ti_in rfl hi0_n_851.1 (om_97cd4a7c b_iC_nodes.2 gc_852)) dX4_weighAll_20 ?_
        refine lv_topi (fun x_854 ex_854 => ?_)
        have rg_x_854 := fb_rng x_854
        have kx_854 : (fC_kind z_849.toNatClampNeg).toInt = x_854.toInt := by rw [ex_854]
        refine lv_if_ne (tgt := 35) hx hb dX4_weighAll_21 (by decide) (fun c_855 => ?_) (fun c_855 => ?_)
        · skip
          have gc_855 := ti_ne c_855 rfl kc_0
          refine lv_aload_n hx hb dX4_weighAll_35 rfl (lv_at hl 1 rfl) ?_
          refine lv_aload_n hx hb dX4_weighAll_36 rfl (lv_at hl 2 rfl) ?_
          refine lv_iload_n hx hb dX4_weighAll_37 rfl (lv_at hl 0 rfl) ?_
          have hMs := ml_of hD [true, true, true, true, true, true, true, true, false] (wc := [(oc4 oL rL_values rL_supposed), (arI rL_values kL_values 18 f_850), (oc1 oC iC_nodes iC_words iC_chances iC_unsures iC_slips iC_throneNode iC_saidWorth iC_unit rC_kind rC_parts rC_partNodes rC_weights rC_weightSums rC_toldWorths rC_steps rC_below rC_above rC_unsureWords rC_unsureWorths), (arI rC_kind kC_kind 18 fC_kind), (arI rC_parts kC_parts 18 fC_parts), (arI rC_partNodes kC_partNodes 72 fC_partNodes), (arI rC_weights kC_weights 72 fC_weights), (arI rC_weightSums kC_weightSums 18 fC_weightSums)]) rfl
          have hFc := va_freeM hD hS hA _ hMs
          refine va_calli (va_runV (As := [.ref oC, .int z_849]) (rest := [.int z_849, .ref rL_values]) ⟨hx, hb, hml, hown, hts⟩ (tX4_joined l dC dI _ oL rL_values f_850 kL_values rL_supposed oC iC_nodes iC_words iC_chances iC_unsures iC_slips iC_throneNode iC_saidWorth iC_unit rC_kind fC_kind kC_kind rC_parts fC_parts kC_parts rC_partNodes fC_partNodes kC_partNodes rC_weights fC_weights kC_weights rC_weightSums fC_weightSums kC_weightSums rC_toldWorths rC_steps rC_below rC_above rC_unsureWords rC_unsureWorths z_849 b_iC_nodes b_iC_unsures b_iC_throneNode a_fC_parts a_fC_partNodes ⟨hi0_n_851.1, (om_525c5d3e b_iC_nodes.2 gc_852)⟩) (cwV 2 hts (wd_V wd_619 wd_620 wd_621 wd_37 (wd_c wd_622)) rfl rfl rfl dv_yX4_joined_2 ⟨Nat.le_of_ble_eq_true rfl, Nat.le_of_ble_eq_true rfl⟩) ⟨Pw.fb, recvX4 hK hP (q0 := 0) rfl, fun U hU hW => Pw.to (hP.ms _ hMs) (hD.ms _ hMs) (hK.ms [true, true, true, true, true, true, false] rfl) hE hS hFc hU hW⟩ rfl rfl hl.1 rfl (lv_room (Nat.le_of_ble_eq_true rfl)) dX4_weighAll_38 ⟨Nat.le_of_ble_eq_true rfl, Nat.le_of_ble_eq_true rfl⟩) hS (fun q _ h => hFc q h) hFc (fun r u t H locs ht hvm hw hB hz1 hk1 hS => ?_)
          obtain ⟨hP, hD⟩ := Bw.goN (ws' := [(oc4 oL rL_values rL_supposed), (arI rL_values kL_values 18 f_850), (oc1 oC iC_nodes iC_words iC_chances iC_unsures iC_slips iC_throneNode iC_saidWorth iC_unit rC_kind rC_parts rC_partNodes rC_weights rC_weightSums rC_toldWorths rC_steps rC_below rC_above rC_unsureWords rC_unsureWorths), (arI rC_kind kC_kind 18 fC_kind), (arI rC_parts kC_parts 18 fC_parts), (arI rC_partNodes kC_partNodes 72 fC_partNodes), (arI rC_weights kC_weights 72 fC_weights), (arI rC_weightSums kC_weightSums 18 fC_weightSums), (arI rW kW 18 fW)]) hB rfl ht hP hD _ hMs hk1 hFc rfl
          clear hz1 hk1 hvm ht hB hMs
          obtain ⟨x_856, rfl⟩ : ∃ z, z = r := ⟨_, rfl⟩
          have rg_x_856 := fb_rng x_856
          refine vz_iast hx hb hK hP hD hS 1 0 rfl rfl (ti_in rfl hi0_n_851.1 (om_97cd4a7c b_iC_nodes.2 gc_852)) dX4_weighAll_41 (fun H locs f_857 hP hD hS => ?_)
          obtain ⟨hP, hD⟩ := wl2 (ws' := [(oc4 oL rL_values rL_supposed), (arI rL_values kL_values 18 f_857), (oc1 oC iC_nodes iC_words iC_chances iC_unsures iC_slips iC_throneNode iC_saidWorth iC_unit rC_kind rC_parts rC_partNodes rC_weights rC_weightSums rC_toldWorths rC_steps rC_below rC_above rC_unsureWords rC_unsureWorths), (arI rC_kind kC_kind 18 fC_kind), (arI rC_parts kC_parts 18 fC_parts), (arI rC_partNodes kC_partNodes 72 fC_partNodes), (arI rC_weights kC_weights 72 fC_weights), (arI rC_weightSums kC_weightSums 18 fC_weightSums), (arI rW kW 18 fW)]) hP hD rfl
          obtain ⟨x_858, ex_858⟩ : ∃ z : Int32, z = z_849 + Int32.ofInt 1 := ⟨_, rfl⟩
          have vx_858 : x_858.toInt = z_849.toInt + 1 := ti_add (y := 1) ex_858 rfl kc_1 (om_4e4fce7e hi0_n_851.1) (om_a32d6481 b_iC_nodes.2 gc_852)
          refine lv_iinc (v := x_858) (lv' := [(3, .int x_858), (0, .ref oL), (1, .ref oC), (2, .ref rW)]) hx hb dX4_weighAll_42 hl (k := 0) rfl ex_858.symm (by decide) rfl (fun ls hl => ?_)
          refine lv_goto (tgt := 2) hx hb dX4_weighAll_45 (by decide) ?_
          exact ih_n_851 x_858 f_857 _ _ _  ⟨(om_83b90de5 hi0_n_851.1 vx_858), (om_ed8867da b_iC_nodes.2 gc_852 vx_858)⟩ (ms_lt hm_n_851 (om_b9393183 vx_858) (om_1d9fa7fb b_iC_nodes.2 gc_852)) hP hD hS (lv_sub hl [0, 1, 2, 3] rfl)
        · skip
          have gc_855 := ti_eq c_855 rfl kc_0
          refine lv_aload_n hx hb dX4_weighAll_24 rfl (lv_at hl 3 rfl) ?_
          refine lv_iload_n hx hb dX4_weighAll_25 rfl (lv_at hl 0 rfl) ?_
          refine va_iald hx hb hK hP 8 6 rfl rfl (ti_in rfl hi0_n_851.1 (om_97cd4a7c b_iC_nodes.2 gc_852)) dX4_weighAll_26 ?_
          refine lv_topi (fun x_859 ex_859 => ?_)
          have rg_x_859 := fb_rng x_859
          have kx_859 : (fW z_849.toNatClampNeg).toInt = x_859.toInt := by rw [ex_859]
          refine lv_aload_n hx hb dX4_weighAll_27 rfl (lv_at hl 2 rfl) ?_
          refine va_get (D := (dC, dI)) (ci := 1) (v := .int iC_unit) (C := RX1) (T := TX1) (N := 19) hx hb hts inX1 hown hK hP 2 rfl rfl 7 (by decide) (hts _ wd_618) (fun _ h9 => h9) rfl dX4_weighAll_28 ?_
          have rg_iC_unit := fb_rng iC_unit
          refine lv_imul hx hb dX4_weighAll_31 ?_
          refine lv_topi (fun x_860 ex_860 => ?_)
          have rg_x_860 := fb_rng x_860
          refine lv_goto (tgt := 41) hx hb dX4_weighAll_32 (by decide) ?_
          refine vz_iast hx hb hK hP hD hS 1 0 rfl rfl (ti_in rfl hi0_n_851.1 (om_97cd4a7c b_iC_nodes.2 gc_852)) dX4_weighAll_41 (fun H locs f_861 hP hD hS => ?_)
          obtain ⟨hP, hD⟩ := wl2 (ws' := [(oc4 oL rL_values rL_supposed), (arI rL_values kL_values 18 f_861), (oc1 oC iC_nodes iC_words iC_chances iC_unsures iC_slips iC_throneNode iC_saidWorth iC_unit rC_kind rC_parts rC_partNodes rC_weights rC_weightSums rC_toldWorths rC_steps rC_below rC_above rC_unsureWords rC_unsureWorths), (arI rC_kind kC_kind 18 fC_kind), (arI rC_parts kC_parts 18 fC_parts), (arI rC_partNodes kC_partNodes 72 fC_partNodes), (arI rC_weights kC_weights 72 fC_weights), (arI rC_weightSums kC_weightSums 18 fC_weightSums), (arI rW kW 18 fW)]) hP hD rfl
          obtain ⟨x_862, ex_862⟩ : ∃ z : Int32, z = z_849 + Int32.ofInt 1 := ⟨_, rfl⟩
          have vx_862 : x_862.toInt = z_849.toInt + 1 := ti_add (y := 1) ex_862 rfl kc_1 (om_4e4fce7e hi0_n_851.1) (om_a32d6481 b_iC_nodes.2 gc_852)
          refine lv_iinc (v := x_862) (lv' := [(3, .int x_862), (0, .ref oL), (1, .ref oC), (2, .ref rW)]) hx hb dX4_weighAll_42 hl (k := 0) rfl ex_862.symm (by decide) rfl (fun ls hl => ?_)
          refine lv_goto (tgt := 2) hx hb dX4_weighAll_45 (by decide) ?_
          exact ih_n_851 x_862 f_861 _ _ _  ⟨(om_83b90de5 hi0_n_851.1 vx_862), (om_ed8867da b_iC_nodes.2 gc_852 vx_862)⟩ (ms_lt hm_n_851 (om_b9393183 vx_862) (om_1d9fa7fb b_iC_nodes.2 gc_852)) hP hD hS (lv_sub hl [0, 1, 2, 3] rfl)
  exact key_n_851 (((2147483647 - (0 : Int32).toInt).toNat) + 1) 0 fL_values _ _ _  ⟨(om_b1de7dbe kc_0), (om_daf17c64 kc_0)⟩ (Nat.lt_add_one _) hP hD hS hl
set_option maxHeartbeats 4000000 in
set_option maxRecDepth 100000 in
theorem tX4_throneByWord (l : Launch) (dC : Nat → ClassId) (dI : Nat → Nat → Nat) (sz : Nat) (oL : Nat) (rL_values : Nat) (fL_values : Nat → Int32) (kL_values : ClassId) (rL_supposed : Nat) (fL_supposed : Nat → Int32) (kL_supposed : ClassId) (oC : Nat) (iC_nodes : Int32) (iC_words : Int32) (iC_chances : Int32) (iC_unsures : Int32) (iC_slips : Int32) (iC_throneNode : Int32) (iC_saidWorth : Int32) (iC_unit : Int32) (rC_kind : Nat) (fC_kind : Nat → Int32) (kC_kind : ClassId) (rC_parts : Nat) (fC_parts : Nat → Int32) (kC_parts : ClassId) (rC_partNodes : Nat) (fC_partNodes : Nat → Int32) (kC_partNodes : ClassId) (rC_weights : Nat) (fC_weights : Nat → Int32) (kC_weights : ClassId) (rC_weightSums : Nat) (fC_weightSums : Nat → Int32) (kC_weightSums : ClassId) (rC_toldWorths : Nat) (rC_steps : Nat) (rC_below : Nat) (rC_above : Nat) (rC_unsureWords : Nat) (rC_unsureWorths : Nat) (oS : Nat) (rS_worths : Nat) (fS_worths : Nat → Int32) (kS_worths : ClassId) (rS_order : Nat) (rS_left : Nat) (p0 : Int32) (p1 : Int32) (b_iC_nodes : 0 ≤ iC_nodes.toInt ∧ iC_nodes.toInt ≤ 18) (b_iC_unsures : 0 ≤ iC_unsures.toInt ∧ iC_unsures.toInt ≤ 4) (b_iC_throneNode : (-1) ≤ iC_throneNode.toInt ∧ iC_throneNode.toInt ≤ 17) (a_fC_parts : ∀ j : Nat, j < 18 → 0 ≤ (fC_parts j).toInt ∧ (fC_parts j).toInt ≤ 4) (a_fC_partNodes : ∀ j : Nat, j < 72 → 0 ≤ (fC_partNodes j).toInt ∧ (fC_partNodes j).toInt ≤ 17)  : Met l yX4_throneByWord (Cond.code yX4_throneByWord cX4_throneByWord 5 (some .int) :: wG) ({ frames := 3, cells := 0, slots := 0, locals := 71 }) (va_Pc [.ref oL, .ref oC, .ref oS, .int p0, .int p1] (Pw dC dI sz [(oc4 oL rL_values rL_supposed), (arI rL_values kL_values 18 fL_values), (arI rL_supposed kL_supposed 18 fL_supposed), (oc1 oC iC_nodes iC_words iC_chances iC_unsures iC_slips iC_throneNode iC_saidWorth iC_unit rC_kind rC_parts rC_partNodes rC_weights rC_weightSums rC_toldWorths rC_steps rC_below rC_above rC_unsureWords rC_unsureWorths), (arI rC_kind kC_kind 18 fC_kind), (arI rC_parts kC_parts 18 fC_parts), (arI rC_partNodes kC_partNodes 72 fC_partNodes), (arI rC_weights kC_weights 72 fC_weights), (arI rC_weightSums kC_weightSums 18 fC_weightSums), (oc5 oS rS_worths rS_order rS_left), (arI rS_worths kS_worths 18 fS_worths)] [(kL_values, .int), (kL_supposed, .int), (kC_kind, .int), (kC_parts, .int), (kC_partNodes, .int), (kC_weights, .int), (kC_weightSums, .int), (kS_worths, .int)])) (va_Qi (fun (r : Int32) (_ : Nat) => True ∧ True) (fun (_ : Nat) (t : State) => ∃ (nfL_values : Nat → Int32) (nfL_supposed : Nat → Int32), Bw dC dI (va_A [(oc4 oL rL_values rL_supposed), (arI rL_values kL_values 18 fL_values), (arI rL_supposed kL_supposed 18 fL_supposed), (oc1 oC iC_nodes iC_words iC_chances iC_unsures iC_slips iC_throneNode iC_saidWorth iC_unit rC_kind rC_parts rC_partNodes rC_weights rC_weightSums rC_toldWorths rC_steps rC_below rC_above rC_unsureWords rC_unsureWorths), (arI rC_kind kC_kind 18 fC_kind), (arI rC_parts kC_parts 18 fC_parts), (arI rC_partNodes kC_partNodes 72 fC_partNodes), (arI rC_weights kC_weights 72 fC_weights), (arI rC_weightSums kC_weightSums 18 fC_weightSums), (oc5 oS rS_worths rS_order rS_left), (arI rS_worths kS_worths 18 fS_worths)] sz) [(oc4 oL rL_values rL_supposed), (arI rL_values kL_values 18 nfL_values), (arI rL_supposed kL_supposed 18 nfL_supposed), (oc1 oC iC_nodes iC_words iC_chances iC_unsures iC_slips iC_throneNode iC_saidWorth iC_unit rC_kind rC_parts rC_partNodes rC_weights rC_weightSums rC_toldWorths rC_steps rC_below rC_above rC_unsureWords rC_unsureWorths), (arI rC_kind kC_kind 18 fC_kind), (arI rC_parts kC_parts 18 fC_parts), (arI rC_partNodes kC_partNodes 72 fC_partNodes), (arI rC_weights kC_weights 72 fC_weights), (arI rC_weightSums kC_weightSums 18 fC_weightSums), (oc5 oS rS_worths rS_order rS_left), (arI rS_worths kS_worths 18 fS_worths)] [(kL_values, .int), (kL_supposed, .int), (kC_kind, .int), (kC_parts, .int), (kC_partNodes, .int), (kC_weights, .int), (kC_weightSums, .int), (kS_worths, .int)] t) (va_A [(oc4 oL rL_values rL_supposed), (arI rL_values kL_values 18 fL_values), (arI rL_supposed kL_supposed 18 fL_supposed), (oc1 oC iC_nodes iC_words iC_chances iC_unsures iC_slips iC_throneNode iC_saidWorth iC_unit rC_kind rC_parts rC_partNodes rC_weights rC_weightSums rC_toldWorths rC_steps rC_below rC_above rC_unsureWords rC_unsureWorths), (arI rC_kind kC_kind 18 fC_kind), (arI rC_parts kC_parts 18 fC_parts), (arI rC_partNodes kC_partNodes 72 fC_partNodes), (arI rC_weights kC_weights 72 fC_weights), (arI rC_weightSums kC_weightSums 18 fC_weightSums), (oc5 oS rS_worths rS_order rS_left), (arI rS_worths kS_worths 18 fS_worths)] sz)) 0 0 (va_A [(oc4 oL rL_values rL_supposed), (arI rL_values kL_values 18 fL_values), (arI rL_supposed kL_supposed 18 fL_supposed), (oc1 oC iC_nodes iC_words iC_chances iC_unsures iC_slips iC_throneNode iC_saidWorth iC_unit rC_kind rC_parts rC_partNodes rC_weights rC_weightSums rC_toldWorths rC_steps rC_below rC_above rC_unsureWords rC_unsureWorths), (arI rC_kind kC_kind 18 fC_kind), (arI rC_parts kC_parts 18 fC_parts), (arI rC_partNodes kC_partNodes 72 fC_partNodes), (arI rC_weights kC_weights 72 fC_weights), (arI rC_weightSums kC_weightSums 18 fC_weightSums), (oc5 oS rS_worths rS_order rS_left), (arI rS_worths kS_worths 18 fS_worths)] sz) := by
  refine Met.ofW (cc := cX4_throneByWord) (maxL := 5) (ret := (some .int)) pnX4 rfl ?_
  intro p e s m args below meth c s₁ B hml hv
  obtain ⟨rfl, hsz, hP, hK, hD0, hE⟩ := hv
  have hx := B.exec
  have hb := B.bytes
  have hr := B.returns
  have hts : ∀ w ∈ wG, w.before ([.ref oL, .ref oC, .ref oS, .int p0, .int p1] : List Value).toArray s = true := fun w h => atoms_spec (ws := Cond.code yX4_throneByWord cX4_throneByWord 5 (some .int) :: wG) B.pre w (List.mem_cons_of_mem _ h)
  have hown : s.vm.findClass RX4 = some m.cls := own_of B.named rfl
  have hlocks := B.notSynchronized
  subst hsz
  have hD := hD0.self (sz := s.heap.size)
  generalize hAe : va_A [(oc4 oL rL_values rL_supposed), (arI rL_values kL_values 18 fL_values), (arI rL_supposed kL_supposed 18 fL_supposed), (oc1 oC iC_nodes iC_words iC_chances iC_unsures iC_slips iC_throneNode iC_saidWorth iC_unit rC_kind rC_parts rC_partNodes rC_weights rC_weightSums rC_toldWorths rC_steps rC_below rC_above rC_unsureWords rC_unsureWorths), (arI rC_kind kC_kind 18 fC_kind), (arI rC_parts kC_parts 18 fC_parts), (arI rC_partNodes kC_partNodes 72 fC_partNodes), (arI rC_weights kC_weights 72 fC_weights), (arI rC_weightSums kC_weightSums 18 fC_weightSums), (oc5 oS rS_worths rS_order rS_left), (arI rS_worths kS_worths 18 fS_worths)] s.heap.size = A at hD hE ⊢
  have hA : ∀ q : Nat, s.heap.size ≤ q → A q := fun q h => by rw [← hAe]; exact Or.inr h
  have hS : va_S A s.heap s.heap [] := va_S.rf
  have hl := lv_entry ([.ref oL, .ref oC, .ref oS, .int p0, .int p1]) (n := 5) (Nat.le_of_ble_eq_true rfl)
  rw [lg_entry_eq]
  generalize (lg_sl ([.ref oL, .ref oC, .ref oS, .int p0, .int p1]) ++ List.replicate (5 - (lg_sl ([.ref oL, .ref oC, .ref oS, .int p0, .int p1])).length) Slot.unset).toArray = ls at hl ⊢
  have hl : lv_has ls 5 [(0, .ref oL), (1, .ref oC), (2, .ref oS), (3, .int p0), (4, .int p1)] := hl
  refine lv_aload_n hx hb dX4_throneByWord_0 rfl (lv_at hl 2 rfl) ?_
  refine va_get (D := (dC, dI)) (ci := 5) (v := .ref rS_worths) (C := RX5) (T := TX5) (N := 3) hx hb hts inX5 hown hK hP 9 rfl rfl 0 (by decide) (hts _ wd_948) (fun _ h9 => h9) rfl dX4_throneByWord_1 ?_
  refine lv_iconst (v := 0) hx hb dX4_throneByWord_4 (by decide) ?_
  refine lv_aload_n hx hb dX4_throneByWord_5 rfl (lv_at hl 0 rfl) ?_
  refine va_get (D := (dC, dI)) (ci := 4) (v := .ref rL_supposed) (C := RX4) (T := TX4) (N := 2) hx hb hts inX4 hown hK hP 0 rfl rfl 1 (by decide) (hts _ wd_147) (fun _ h9 => h9) rfl dX4_throneByWord_6 ?_
  refine lv_iconst (v := 0) hx hb dX4_throneByWord_9 (by decide) ?_
  refine lv_bipush (v := 18) hx hb dX4_throneByWord_10 (by decide) ?_
  refine vz_copyi hx hb (hml.trans hl.1.symm) hown (hts _ wd_1134) (hts _ wd_1016) (hts _ wd_1017) (hts _ wd_1018) hK hP hD hS 10 2 7 1 rfl rfl rfl rfl (k := 18) (by decide) (by decide) (Nat.le_of_ble_eq_true rfl) (Nat.le_of_ble_eq_true (by decide +kernel)) dX4_throneByWord_12 (fun H locs f_872 c_f_872 hP hD hS => ?_)
  obtain ⟨hP, hD⟩ := wl2 (ws' := [(oc4 oL rL_values rL_supposed), (arI rL_values kL_values 18 fL_values), (arI rL_supposed kL_supposed 18 f_872), (oc1 oC iC_nodes iC_words iC_chances iC_unsures iC_slips iC_throneNode iC_saidWorth iC_unit rC_kind rC_parts rC_partNodes rC_weights rC_weightSums rC_toldWorths rC_steps rC_below rC_above rC_unsureWords rC_unsureWorths), (arI rC_kind kC_kind 18 fC_kind), (arI rC_parts kC_parts 18 fC_parts), (arI rC_partNodes kC_partNodes 72 fC_partNodes), (arI rC_weights kC_weights 72 fC_weights), (arI rC_weightSums kC_weightSums 18 fC_weightSums), (oc5 oS rS_worths rS_order rS_left), (arI rS_worths kS_worths 18 fS_worths)]) hP hD rfl
  refine lv_aload_n hx hb dX4_throneByWord_15 rfl (lv_at hl 1 rfl) ?_
  refine lv_iload_n hx hb dX4_throneByWord_16 rfl (lv_at hl 3 rfl) ?_
  have hMs := ml_of hD [false, false, false, true, false, false, false, false, false, false, false] (wc := [(oc1 oC iC_nodes iC_words iC_chances iC_unsures iC_slips iC_throneNode iC_saidWorth iC_unit rC_kind rC_parts rC_partNodes rC_weights rC_weightSums rC_toldWorths rC_steps rC_below rC_above rC_unsureWords rC_unsureWorths)]) rfl
  have hFc := va_freeM hD hS hA _ hMs
  refine va_calli (va_runV (As := [.int p0]) (rest := []) ⟨hx, hb, hml, hown, hts⟩ (tX1_hasNode l dC dI _ oC iC_nodes iC_words iC_chances iC_unsures iC_slips iC_throneNode iC_saidWorth iC_unit rC_kind rC_parts rC_partNodes rC_weights rC_weightSums rC_toldWorths rC_steps rC_below rC_above rC_unsureWords rC_unsureWorths p0 b_iC_nodes b_iC_unsures b_iC_throneNode) (cwV 1 hts (wd_V wd_634 wd_326 wd_327 wd_19 (wd_c wd_328)) rfl rfl rfl dv_yX1_hasNode_1 ⟨Nat.le_of_ble_eq_true rfl, Nat.le_of_ble_eq_true rfl⟩) ⟨Pw.fb, recvX1 hK hP (q0 := 3) rfl, fun U hU hW => Pw.to (hP.ms _ hMs) (hD.ms _ hMs) (hK.ms [false, false, false, false, false, false, false, false] rfl) hE hS hFc hU hW⟩ rfl rfl hl.1 rfl (lv_room (Nat.le_of_ble_eq_true rfl)) dX4_throneByWord_17 ⟨Nat.le_of_ble_eq_true rfl, Nat.le_of_ble_eq_true rfl⟩) hS (fun q _ h => hFc q h) hFc (fun r u t H locs ht hvm hw hB hz1 hk1 hS => ?_)
  have hru9 := hw.2
  have hw := hw.1
  obtain ⟨hP, hD⟩ := Bw.goN (ws' := [(oc4 oL rL_values rL_supposed), (arI rL_values kL_values 18 fL_values), (arI rL_supposed kL_supposed 18 f_872), (oc1 oC iC_nodes iC_words iC_chances iC_unsures iC_slips iC_throneNode iC_saidWorth iC_unit rC_kind rC_parts rC_partNodes rC_weights rC_weightSums rC_toldWorths rC_steps rC_below rC_above rC_unsureWords rC_unsureWorths), (arI rC_kind kC_kind 18 fC_kind), (arI rC_parts kC_parts 18 fC_parts), (arI rC_partNodes kC_partNodes 72 fC_partNodes), (arI rC_weights kC_weights 72 fC_weights), (arI rC_weightSums kC_weightSums 18 fC_weightSums), (oc5 oS rS_worths rS_order rS_left), (arI rS_worths kS_worths 18 fS_worths)]) hB rfl ht hP hD _ hMs hk1 hFc rfl
  clear hz1 hk1 hvm ht hB hMs
  rcases hw.2 with ⟨rfl, hc_873⟩ | ⟨rfl, hc_873⟩
  · skip
    refine lv_if_eq (tgt := 31) hx hb dX4_throneByWord_20 (by decide) (fun c => absurd c (by decide)) (fun _ => ?_)
    refine lv_aload_n hx hb dX4_throneByWord_23 rfl (lv_at hl 0 rfl) ?_
    refine va_get (D := (dC, dI)) (ci := 4) (v := .ref rL_supposed) (C := RX4) (T := TX4) (N := 2) hx hb hts inX4 hown hK hP 0 rfl rfl 1 (by decide) (hts _ wd_147) (fun _ h9 => h9) rfl dX4_throneByWord_24 ?_
    refine lv_iload_n hx hb dX4_throneByWord_27 rfl (lv_at hl 3 rfl) ?_
    refine lv_iload hx hb dX4_throneByWord_28 (lv_at hl 4 rfl) ?_
    refine vz_iast hx hb hK hP hD hS 2 1 rfl rfl (ti_in rfl hc_873.1 (om_97cd4a7c b_iC_nodes.2 hc_873.2)) dX4_throneByWord_30 (fun H locs f_875 hP hD hS => ?_)
    obtain ⟨hP, hD⟩ := wl2 (ws' := [(oc4 oL rL_values rL_supposed), (arI rL_values kL_values 18 fL_values), (arI rL_supposed kL_supposed 18 f_875), (oc1 oC iC_nodes iC_words iC_chances iC_unsures iC_slips iC_throneNode iC_saidWorth iC_unit rC_kind rC_parts rC_partNodes rC_weights rC_weightSums rC_toldWorths rC_steps rC_below rC_above rC_unsureWords rC_unsureWorths), (arI rC_kind kC_kind 18 fC_kind), (arI rC_parts kC_parts 18 fC_parts), (arI rC_partNodes kC_partNodes 72 fC_partNodes), (arI rC_weights kC_weights 72 fC_weights), (arI rC_weightSums kC_weightSums 18 fC_weightSums), (oc5 oS rS_worths rS_order rS_left), (arI rS_worths kS_worths 18 fS_worths)]) hP hD rfl
    refine lv_aload_n hx hb dX4_throneByWord_31 rfl (lv_at hl 0 rfl) ?_
    refine lv_aload_n hx hb dX4_throneByWord_32 rfl (lv_at hl 1 rfl) ?_
    refine lv_aload_n hx hb dX4_throneByWord_33 rfl (lv_at hl 0 rfl) ?_
    refine va_get (D := (dC, dI)) (ci := 4) (v := .ref rL_supposed) (C := RX4) (T := TX4) (N := 2) hx hb hts inX4 hown hK hP 0 rfl rfl 1 (by decide) (hts _ wd_147) (fun _ h9 => h9) rfl dX4_throneByWord_34 ?_
    have hFc := va_free (wc := [(oc4 oL rL_values rL_supposed), (arI rL_values kL_values 18 fL_values), (oc1 oC iC_nodes iC_words iC_chances iC_unsures iC_slips iC_throneNode iC_saidWorth iC_unit rC_kind rC_parts rC_partNodes rC_weights rC_weightSums rC_toldWorths rC_steps rC_below rC_above rC_unsureWords rC_unsureWorths), (arI rC_kind kC_kind 18 fC_kind), (arI rC_parts kC_parts 18 fC_parts), (arI rC_partNodes kC_partNodes 72 fC_partNodes), (arI rC_weights kC_weights 72 fC_weights), (arI rC_weightSums kC_weightSums 18 fC_weightSums), (arI rL_supposed kL_supposed 18 f_875)]) hD hS hA [0, 1, 3, 4, 5, 6, 7, 8, 2] rfl
    refine va_calli (va_runV (As := [.ref oC, .ref rL_supposed]) (rest := []) ⟨hx, hb, hml, hown, hts⟩ (tX4_weighAll l dC dI _ oL rL_values fL_values kL_values rL_supposed oC iC_nodes iC_words iC_chances iC_unsures iC_slips iC_throneNode iC_saidWorth iC_unit rC_kind fC_kind kC_kind rC_parts fC_parts kC_parts rC_partNodes fC_partNodes kC_partNodes rC_weights fC_weights kC_weights rC_weightSums fC_weightSums kC_weightSums rC_toldWorths rC_steps rC_below rC_above rC_unsureWords rC_unsureWorths rL_supposed f_875 kL_supposed b_iC_nodes b_iC_unsures b_iC_throneNode a_fC_parts a_fC_partNodes) (cwV 2 hts (wd_V wd_949 wd_613 wd_614 wd_37 (wd_c wd_615)) rfl rfl rfl dv_yX4_weighAll_2 ⟨Nat.le_of_ble_eq_true rfl, Nat.le_of_ble_eq_true rfl⟩) ⟨Pw.fb, recvX4 hK hP (q0 := 0) rfl, fun U hU hW => Pw.to (hP.sub [0, 1, 3, 4, 5, 6, 7, 8, 2] rfl) (hD.sub [0, 1, 3, 4, 5, 6, 7, 8, 2] (by decide) rfl) (hK.sub [0, 2, 3, 4, 5, 6, 1] rfl) hE hS hFc hU hW⟩ rfl rfl hl.1 rfl (lv_room (Nat.le_of_ble_eq_true rfl)) dX4_throneByWord_37 ⟨Nat.le_of_ble_eq_true rfl, Nat.le_of_ble_eq_true rfl⟩) hS (fun q _ h => hFc q h) hFc (fun r u t H locs ht hvm hw hB hz1 hk1 hS => ?_)
    refine ex_1_0 hB (fun f_876 hB => ?_)
    obtain ⟨hP, hD, hK⟩ := Bw.go (ws' := [(oc5 oS rS_worths rS_order rS_left), (arI rS_worths kS_worths 18 fS_worths), (oc4 oL rL_values rL_supposed), (arI rL_values kL_values 18 f_876), (oc1 oC iC_nodes iC_words iC_chances iC_unsures iC_slips iC_throneNode iC_saidWorth iC_unit rC_kind rC_parts rC_partNodes rC_weights rC_weightSums rC_toldWorths rC_steps rC_below rC_above rC_unsureWords rC_unsureWorths), (arI rC_kind kC_kind 18 fC_kind), (arI rC_parts kC_parts 18 fC_parts), (arI rC_partNodes kC_partNodes 72 fC_partNodes), (arI rC_weights kC_weights 72 fC_weights), (arI rC_weightSums kC_weightSums 18 fC_weightSums), (arI rL_supposed kL_supposed 18 f_875)]) (tys' := [(kS_worths, .int), (kL_values, .int), (kC_kind, .int), (kC_parts, .int), (kC_partNodes, .int), (kC_weights, .int), (kC_weightSums, .int), (kL_supposed, .int)]) hB rfl ht hvm hP hD hK [0, 1, 3, 4, 5, 6, 7, 8, 2] [9, 10] rfl (by decide) (by decide) [7] hk1 hFc rfl rfl rfl
    clear hz1 hk1 hvm ht hB
    obtain ⟨x_877, rfl⟩ : ∃ z, z = r := ⟨_, rfl⟩
    exact wq_i hx hb hr 0 ⟨trivial, trivial⟩ (fun t ht hW => ⟨f_876, f_875, Bw.to (hP.sub [2, 3, 10, 4, 5, 6, 7, 8, 9, 0, 1] rfl) (hD.sub [2, 3, 10, 4, 5, 6, 7, 8, 9, 0, 1] (by decide) rfl) (hK.sub [1, 7, 2, 3, 4, 5, 6, 0] rfl) ht hW⟩) hS dX4_throneByWord_40 hlocks
  · skip
    refine lv_if_eq (tgt := 31) hx hb dX4_throneByWord_20 (by decide) (fun _ => ?_) (fun c => absurd c (by decide))
    refine lv_aload_n hx hb dX4_throneByWord_31 rfl (lv_at hl 0 rfl) ?_
    refine lv_aload_n hx hb dX4_throneByWord_32 rfl (lv_at hl 1 rfl) ?_
    refine lv_aload_n hx hb dX4_throneByWord_33 rfl (lv_at hl 0 rfl) ?_
    refine va_get (D := (dC, dI)) (ci := 4) (v := .ref rL_supposed) (C := RX4) (T := TX4) (N := 2) hx hb hts inX4 hown hK hP 0 rfl rfl 1 (by decide) (hts _ wd_147) (fun _ h9 => h9) rfl dX4_throneByWord_34 ?_
    have hFc := va_free (wc := [(oc4 oL rL_values rL_supposed), (arI rL_values kL_values 18 fL_values), (oc1 oC iC_nodes iC_words iC_chances iC_unsures iC_slips iC_throneNode iC_saidWorth iC_unit rC_kind rC_parts rC_partNodes rC_weights rC_weightSums rC_toldWorths rC_steps rC_below rC_above rC_unsureWords rC_unsureWorths), (arI rC_kind kC_kind 18 fC_kind), (arI rC_parts kC_parts 18 fC_parts), (arI rC_partNodes kC_partNodes 72 fC_partNodes), (arI rC_weights kC_weights 72 fC_weights), (arI rC_weightSums kC_weightSums 18 fC_weightSums), (arI rL_supposed kL_supposed 18 f_872)]) hD hS hA [0, 1, 3, 4, 5, 6, 7, 8, 2] rfl
    refine va_calli (va_runV (As := [.ref oC, .ref rL_supposed]) (rest := []) ⟨hx, hb, hml, hown, hts⟩ (tX4_weighAll l dC dI _ oL rL_values fL_values kL_values rL_supposed oC iC_nodes iC_words iC_chances iC_unsures iC_slips iC_throneNode iC_saidWorth iC_unit rC_kind fC_kind kC_kind rC_parts fC_parts kC_parts rC_partNodes fC_partNodes kC_partNodes rC_weights fC_weights kC_weights rC_weightSums fC_weightSums kC_weightSums rC_toldWorths rC_steps rC_below rC_above rC_unsureWords rC_unsureWorths rL_supposed f_872 kL_supposed b_iC_nodes b_iC_unsures b_iC_throneNode a_fC_parts a_fC_partNodes) (cwV 2 hts (wd_V wd_949 wd_613 wd_614 wd_37 (wd_c wd_615)) rfl rfl rfl dv_yX4_weighAll_2 ⟨Nat.le_of_ble_eq_true rfl, Nat.le_of_ble_eq_true rfl⟩) ⟨Pw.fb, recvX4 hK hP (q0 := 0) rfl, fun U hU hW => Pw.to (hP.sub [0, 1, 3, 4, 5, 6, 7, 8, 2] rfl) (hD.sub [0, 1, 3, 4, 5, 6, 7, 8, 2] (by decide) rfl) (hK.sub [0, 2, 3, 4, 5, 6, 1] rfl) hE hS hFc hU hW⟩ rfl rfl hl.1 rfl (lv_room (Nat.le_of_ble_eq_true rfl)) dX4_throneByWord_37 ⟨Nat.le_of_ble_eq_true rfl, Nat.le_of_ble_eq_true rfl⟩) hS (fun q _ h => hFc q h) hFc (fun r u t H locs ht hvm hw hB hz1 hk1 hS => ?_)
    refine ex_1_0 hB (fun f_879 hB => ?_)
    obtain ⟨hP, hD, hK⟩ := Bw.go (ws' := [(oc5 oS rS_worths rS_order rS_left), (arI rS_worths kS_worths 18 fS_worths), (oc4 oL rL_values rL_supposed), (arI rL_values kL_values 18 f_879), (oc1 oC iC_nodes iC_words iC_chances iC_unsures iC_slips iC_throneNode iC_saidWorth iC_unit rC_kind rC_parts rC_partNodes rC_weights rC_weightSums rC_toldWorths rC_steps rC_below rC_above rC_unsureWords rC_unsureWorths), (arI rC_kind kC_kind 18 fC_kind), (arI rC_parts kC_parts 18 fC_parts), (arI rC_partNodes kC_partNodes 72 fC_partNodes), (arI rC_weights kC_weights 72 fC_weights), (arI rC_weightSums kC_weightSums 18 fC_weightSums), (arI rL_supposed kL_supposed 18 f_872)]) (tys' := [(kS_worths, .int), (kL_values, .int), (kC_kind, .int), (kC_parts, .int), (kC_partNodes, .int), (kC_weights, .int), (kC_weightSums, .int), (kL_supposed, .int)]) hB rfl ht hvm hP hD hK [0, 1, 3, 4, 5, 6, 7, 8, 2] [9, 10] rfl (by decide) (by decide) [7] hk1 hFc rfl rfl rfl
    clear hz1 hk1 hvm ht hB
    obtain ⟨x_880, rfl⟩ : ∃ z, z = r := ⟨_, rfl⟩
    exact wq_i hx hb hr 0 ⟨trivial, trivial⟩ (fun t ht hW => ⟨f_879, f_872, Bw.to (hP.sub [2, 3, 10, 4, 5, 6, 7, 8, 9, 0, 1] rfl) (hD.sub [2, 3, 10, 4, 5, 6, 7, 8, 9, 0, 1] (by decide) rfl) (hK.sub [1, 7, 2, 3, 4, 5, 6, 0] rfl) ht hW⟩) hS dX4_throneByWord_40 hlocks
set_option maxHeartbeats 4000000 in
set_option maxRecDepth 100000 in
theorem tX4_throneBySet (l : Launch) (dC : Nat → ClassId) (dI : Nat → Nat → Nat) (sz : Nat) (oL : Nat) (rL_values : Nat) (fL_values : Nat → Int32) (kL_values : ClassId) (rL_supposed : Nat) (fL_supposed : Nat → Int32) (kL_supposed : ClassId) (oC : Nat) (iC_nodes : Int32) (iC_words : Int32) (iC_chances : Int32) (iC_unsures : Int32) (iC_slips : Int32) (iC_throneNode : Int32) (iC_saidWorth : Int32) (iC_unit : Int32) (rC_kind : Nat) (fC_kind : Nat → Int32) (kC_kind : ClassId) (rC_parts : Nat) (fC_parts : Nat → Int32) (kC_parts : ClassId) (rC_partNodes : Nat) (fC_partNodes : Nat → Int32) (kC_partNodes : ClassId) (rC_weights : Nat) (fC_weights : Nat → Int32) (kC_weights : ClassId) (rC_weightSums : Nat) (fC_weightSums : Nat → Int32) (kC_weightSums : ClassId) (rC_toldWorths : Nat) (rC_steps : Nat) (rC_below : Nat) (rC_above : Nat) (rC_unsureWords : Nat) (rC_unsureWorths : Nat) (oS : Nat) (rS_worths : Nat) (fS_worths : Nat → Int32) (kS_worths : ClassId) (rS_order : Nat) (rS_left : Nat) (p0 : Int32) (p1 : Int32) (b_iC_nodes : 0 ≤ iC_nodes.toInt ∧ iC_nodes.toInt ≤ 18) (b_iC_unsures : 0 ≤ iC_unsures.toInt ∧ iC_unsures.toInt ≤ 4) (b_iC_throneNode : (-1) ≤ iC_throneNode.toInt ∧ iC_throneNode.toInt ≤ 17) (a_fC_parts : ∀ j : Nat, j < 18 → 0 ≤ (fC_parts j).toInt ∧ (fC_parts j).toInt ≤ 4) (a_fC_partNodes : ∀ j : Nat, j < 72 → 0 ≤ (fC_partNodes j).toInt ∧ (fC_partNodes j).toInt ≤ 17)  : Met l yX4_throneBySet (Cond.code yX4_throneBySet cX4_throneBySet 6 (some .int) :: wG) ({ frames := 3, cells := 0, slots := 0, locals := 71 }) (va_Pc [.ref oL, .ref oC, .ref oS, .int p0, .int p1] (Pw dC dI sz [(oc4 oL rL_values rL_supposed), (arI rL_values kL_values 18 fL_values), (arI rL_supposed kL_supposed 18 fL_supposed), (oc1 oC iC_nodes iC_words iC_chances iC_unsures iC_slips iC_throneNode iC_saidWorth iC_unit rC_kind rC_parts rC_partNodes rC_weights rC_weightSums rC_toldWorths rC_steps rC_below rC_above rC_unsureWords rC_unsureWorths), (arI rC_kind kC_kind 18 fC_kind), (arI rC_parts kC_parts 18 fC_parts), (arI rC_partNodes kC_partNodes 72 fC_partNodes), (arI rC_weights kC_weights 72 fC_weights), (arI rC_weightSums kC_weightSums 18 fC_weightSums), (oc5 oS rS_worths rS_order rS_left), (arI rS_worths kS_worths 18 fS_worths)] [(kL_values, .int), (kL_supposed, .int), (kC_kind, .int), (kC_parts, .int), (kC_partNodes, .int), (kC_weights, .int), (kC_weightSums, .int), (kS_worths, .int)])) (va_Qi (fun (r : Int32) (_ : Nat) => True ∧ True) (fun (_ : Nat) (t : State) => ∃ (nfL_values : Nat → Int32) (nfL_supposed : Nat → Int32), Bw dC dI (va_A [(oc4 oL rL_values rL_supposed), (arI rL_values kL_values 18 fL_values), (arI rL_supposed kL_supposed 18 fL_supposed), (oc1 oC iC_nodes iC_words iC_chances iC_unsures iC_slips iC_throneNode iC_saidWorth iC_unit rC_kind rC_parts rC_partNodes rC_weights rC_weightSums rC_toldWorths rC_steps rC_below rC_above rC_unsureWords rC_unsureWorths), (arI rC_kind kC_kind 18 fC_kind), (arI rC_parts kC_parts 18 fC_parts), (arI rC_partNodes kC_partNodes 72 fC_partNodes), (arI rC_weights kC_weights 72 fC_weights), (arI rC_weightSums kC_weightSums 18 fC_weightSums), (oc5 oS rS_worths rS_order rS_left), (arI rS_worths kS_worths 18 fS_worths)] sz) [(oc4 oL rL_values rL_supposed), (arI rL_values kL_values 18 nfL_values), (arI rL_supposed kL_supposed 18 nfL_supposed), (oc1 oC iC_nodes iC_words iC_chances iC_unsures iC_slips iC_throneNode iC_saidWorth iC_unit rC_kind rC_parts rC_partNodes rC_weights rC_weightSums rC_toldWorths rC_steps rC_below rC_above rC_unsureWords rC_unsureWorths), (arI rC_kind kC_kind 18 fC_kind), (arI rC_parts kC_parts 18 fC_parts), (arI rC_partNodes kC_partNodes 72 fC_partNodes), (arI rC_weights kC_weights 72 fC_weights), (arI rC_weightSums kC_weightSums 18 fC_weightSums), (oc5 oS rS_worths rS_order rS_left), (arI rS_worths kS_worths 18 fS_worths)] [(kL_values, .int), (kL_supposed, .int), (kC_kind, .int), (kC_parts, .int), (kC_partNodes, .int), (kC_weights, .int), (kC_weightSums, .int), (kS_worths, .int)] t) (va_A [(oc4 oL rL_values rL_supposed), (arI rL_values kL_values 18 fL_values), (arI rL_supposed kL_supposed 18 fL_supposed), (oc1 oC iC_nodes iC_words iC_chances iC_unsures iC_slips iC_throneNode iC_saidWorth iC_unit rC_kind rC_parts rC_partNodes rC_weights rC_weightSums rC_toldWorths rC_steps rC_below rC_above rC_unsureWords rC_unsureWorths), (arI rC_kind kC_kind 18 fC_kind), (arI rC_parts kC_parts 18 fC_parts), (arI rC_partNodes kC_partNodes 72 fC_partNodes), (arI rC_weights kC_weights 72 fC_weights), (arI rC_weightSums kC_weightSums 18 fC_weightSums), (oc5 oS rS_worths rS_order rS_left), (arI rS_worths kS_worths 18 fS_worths)] sz)) 0 0 (va_A [(oc4 oL rL_values rL_supposed), (arI rL_values kL_values 18 fL_values), (arI rL_supposed kL_supposed 18 fL_supposed), (oc1 oC iC_nodes iC_words iC_chances iC_unsures iC_slips iC_throneNode iC_saidWorth iC_unit rC_kind rC_parts rC_partNodes rC_weights rC_weightSums rC_toldWorths rC_steps rC_below rC_above rC_unsureWords rC_unsureWorths), (arI rC_kind kC_kind 18 fC_kind), (arI rC_parts kC_parts 18 fC_parts), (arI rC_partNodes kC_partNodes 72 fC_partNodes), (arI rC_weights kC_weights 72 fC_weights), (arI rC_weightSums kC_weightSums 18 fC_weightSums), (oc5 oS rS_worths rS_order rS_left), (arI rS_worths kS_worths 18 fS_worths)] sz) := by
  refine Met.ofW (cc := cX4_throneBySet) (maxL := 6) (ret := (some .int)) pnX4 rfl ?_
  intro p e s m args below meth c s₁ B hml hv
  obtain ⟨rfl, hsz, hP, hK, hD0, hE⟩ := hv
  have hx := B.exec
  have hb := B.bytes
  have hr := B.returns
  have hts : ∀ w ∈ wG, w.before ([.ref oL, .ref oC, .ref oS, .int p0, .int p1] : List Value).toArray s = true := fun w h => atoms_spec (ws := Cond.code yX4_throneBySet cX4_throneBySet 6 (some .int) :: wG) B.pre w (List.mem_cons_of_mem _ h)
  have hown : s.vm.findClass RX4 = some m.cls := own_of B.named rfl
  have hlocks := B.notSynchronized
  subst hsz
  have hD := hD0.self (sz := s.heap.size)
  generalize hAe : va_A [(oc4 oL rL_values rL_supposed), (arI rL_values kL_values 18 fL_values), (arI rL_supposed kL_supposed 18 fL_supposed), (oc1 oC iC_nodes iC_words iC_chances iC_unsures iC_slips iC_throneNode iC_saidWorth iC_unit rC_kind rC_parts rC_partNodes rC_weights rC_weightSums rC_toldWorths rC_steps rC_below rC_above rC_unsureWords rC_unsureWorths), (arI rC_kind kC_kind 18 fC_kind), (arI rC_parts kC_parts 18 fC_parts), (arI rC_partNodes kC_partNodes 72 fC_partNodes), (arI rC_weights kC_weights 72 fC_weights), (arI rC_weightSums kC_weightSums 18 fC_weightSums), (oc5 oS rS_worths rS_order rS_left), (arI rS_worths kS_worths 18 fS_worths)] s.heap.size = A at hD hE ⊢
  have hA : ∀ q : Nat, s.heap.size ≤ q → A q := fun q h => by rw [← hAe]; exact Or.inr h
  have hS : va_S A s.heap s.heap [] := va_S.rf
  have hl := lv_entry ([.ref oL, .ref oC, .ref oS, .int p0, .int p1]) (n := 6) (Nat.le_of_ble_eq_true rfl)
  rw [lg_entry_eq]
  generalize (lg_sl ([.ref oL, .ref oC, .ref oS, .int p0, .int p1]) ++ List.replicate (6 - (lg_sl ([.ref oL, .ref oC, .ref oS, .int p0, .int p1])).length) Slot.unset).toArray = ls at hl ⊢
  have hl : lv_has ls 6 [(0, .ref oL), (1, .ref oC), (2, .ref oS), (3, .int p0), (4, .int p1)] := hl
  have rg_p0 := fb_rng p0
  have rg_p1 := fb_rng p1
  refine lv_iconst (v := 0) hx hb dX4_throneBySet_0 (by decide) ?_
  refine lv_istore (lv' := [(5, .int 0), (0, .ref oL), (1, .ref oC), (2, .ref oS), (3, .int p0), (4, .int p1)]) hx hb dX4_throneBySet_1 hl (by decide) rfl (fun ls hl => ?_)
  have hl := lv_sub hl (l' := [(5, .int 0), (0, .ref oL), (1, .ref oC), (2, .ref oS), (3, .int p0), (4, .int p1)]) [0, 1, 2, 3, 4, 5] rfl
  have key_n_907 : ∀ (n_907 : Nat) (z_905 : Int32) (f_906 : Nat → Int32) (H : Heap) (locs : List Loc) (ls : Array Slot), (0 ≤ z_905.toInt ∧ z_905.toInt ≤ 2147483647) → (2147483647 - z_905.toInt).toNat < n_907 → va_P (dC, dI) vwCl [(oc4 oL rL_values rL_supposed), (arI rL_values kL_values 18 fL_values), (arI rL_supposed kL_supposed 18 f_906), (oc1 oC iC_nodes iC_words iC_chances iC_unsures iC_slips iC_throneNode iC_saidWorth iC_unit rC_kind rC_parts rC_partNodes rC_weights rC_weightSums rC_toldWorths rC_steps rC_below rC_above rC_unsureWords rC_unsureWorths), (arI rC_kind kC_kind 18 fC_kind), (arI rC_parts kC_parts 18 fC_parts), (arI rC_partNodes kC_partNodes 72 fC_partNodes), (arI rC_weights kC_weights 72 fC_weights), (arI rC_weightSums kC_weightSums 18 fC_weightSums), (oc5 oS rS_worths rS_order rS_left), (arI rS_worths kS_worths 18 fS_worths)] H → va_D A [(oc4 oL rL_values rL_supposed), (arI rL_values kL_values 18 fL_values), (arI rL_supposed kL_supposed 18 f_906), (oc1 oC iC_nodes iC_words iC_chances iC_unsures iC_slips iC_throneNode iC_saidWorth iC_unit rC_kind rC_parts rC_partNodes rC_weights rC_weightSums rC_toldWorths rC_steps rC_below rC_above rC_unsureWords rC_unsureWorths), (arI rC_kind kC_kind 18 fC_kind), (arI rC_parts kC_parts 18 fC_parts), (arI rC_partNodes kC_partNodes 72 fC_partNodes), (arI rC_weights kC_weights 72 fC_weights), (arI rC_weightSums kC_weightSums 18 fC_weightSums), (oc5 oS rS_worths rS_order rS_left), (arI rS_worths kS_worths 18 fS_worths)] → va_S A s.heap H locs → lv_has ls 6 [(5, .int z_905), (0, .ref oL), (1, .ref oC), (2, .ref oS), (3, .int p0), (4, .int p1)] → W p l e (headSpec (Cond.code yX4_throneBySet cX4_throneBySet 6 (some .int) :: wG) ({ frames := 3, cells := 0, slots := 0, locals := 71 })).room s m ([.ref oL, .ref oC, .ref oS, .int p0, .int p1] : List Value).toArray below meth c H locs 0 0 (MQ below (va_Qi (fun (r : Int32) (_ : Nat) => True ∧ True) (fun (_ : Nat) (t : State) => ∃ (nfL_values : Nat → Int32) (nfL_supposed : Nat → Int32), Bw dC dI A [(oc4 oL rL_values rL_supposed), (arI rL_values kL_values 18 nfL_values), (arI rL_supposed kL_supposed 18 nfL_supposed), (oc1 oC iC_nodes iC_words iC_chances iC_unsures iC_slips iC_throneNode iC_saidWorth iC_unit rC_kind rC_parts rC_partNodes rC_weights rC_weightSums rC_toldWorths rC_steps rC_below rC_above rC_unsureWords rC_unsureWorths), (arI rC_kind kC_kind 18 fC_kind), (arI rC_parts kC_parts 18 fC_parts), (arI rC_partNodes kC_partNodes 72 fC_partNodes), (arI rC_weights kC_weights 72 fC_weights), (arI rC_weightSums kC_weightSums 18 fC_weightSums), (oc5 oS rS_worths rS_order rS_left), (arI rS_worths kS_worths 18 fS_worths)] [(kL_values, .int), (kL_supposed, .int), (kC_kind, .int), (kC_parts, .int), (kC_partNodes, .int), (kC_weights, .int), (kC_weightSums, .int), (kS_worths, .int)] t) A) ([.ref oL, .ref oC, .ref oS, .int p0, .int p1] : List Value).toArray s 0 0 A) (F0 m 3 ls []) := by
    intro n_907
    induction n_907 with
    | zero => intro z_905 f_906 H locs ls hi0_n_907 hm; exact absurd hm (Nat.not_lt_zero _)
    | succ n_907 ih_n_907 =>
      intro z_905 f_906 H locs ls hi0_n_907 hm_n_907 hP hD hS hl
      have rg_z_905 := fb_rng z_905
      refine lv_iload hx hb dX4_throneBySet_3 (lv_at hl 0 rfl) ?_
      refine lv_aload_n hx hb dX4_throneBySet_5 rfl (lv_at hl 2 rfl) ?_
      refine va_get (D := (dC, dI)) (ci := 1) (v := .int iC_nodes) (C := RX1) (T := TX1) (N := 19) hx hb hts inX1 hown hK hP 3 rfl rfl 0 (by decide) (hts _ wd_616) (fun _ h9 => h9) rfl dX4_throneBySet_6 ?_
      have rg_iC_nodes := fb_rng iC_nodes
      refine lv_icmp_ge (tgt := 47) hx hb dX4_throneBySet_9 (by decide) (fun c_908 => ?_) (fun c_908 => ?_)
      · skip
        have gc_908 := ti_le c_908 rfl rfl
        refine lv_aload_n hx hb dX4_throneBySet_47 rfl (lv_at hl 1 rfl) ?_
        refine lv_aload_n hx hb dX4_throneBySet_48 rfl (lv_at hl 2 rfl) ?_
        refine lv_aload_n hx hb dX4_throneBySet_49 rfl (lv_at hl 1 rfl) ?_
        refine va_get (D := (dC, dI)) (ci := 4) (v := .ref rL_supposed) (C := RX4) (T := TX4) (N := 2) hx hb hts inX4 hown hK hP 0 rfl rfl 1 (by decide) (hts _ wd_147) (fun _ h9 => h9) rfl dX4_throneBySet_50 ?_
        have hFc := va_free (wc := [(oc4 oL rL_values rL_supposed), (arI rL_values kL_values 18 fL_values), (oc1 oC iC_nodes iC_words iC_chances iC_unsures iC_slips iC_throneNode iC_saidWorth iC_unit rC_kind rC_parts rC_partNodes rC_weights rC_weightSums rC_toldWorths rC_steps rC_below rC_above rC_unsureWords rC_unsureWorths), (arI rC_kind kC_kind 18 fC_kind), (arI rC_parts kC_parts 18 fC_parts), (arI rC_partNodes kC_partNodes 72 fC_partNodes), (arI rC_weights kC_weights 72 fC_weights), (arI rC_weightSums kC_weightSums 18 fC_weightSums), (arI rL_supposed kL_supposed 18 f_906)]) hD hS hA [0, 1, 3, 4, 5, 6, 7, 8, 2] rfl
        refine va_calli (va_runV (As := [.ref oC, .ref rL_supposed]) (rest := []) ⟨hx, hb, hml, hown, hts⟩ (tX4_weighAll l dC dI _ oL rL_values fL_values kL_values rL_supposed oC iC_nodes iC_words iC_chances iC_unsures iC_slips iC_throneNode iC_saidWorth iC_unit rC_kind fC_kind kC_kind rC_parts fC_parts kC_parts rC_partNodes fC_partNodes kC_partNodes rC_weights fC_weights kC_weights rC_weightSums fC_weightSums kC_weightSums rC_toldWorths rC_steps rC_below rC_above rC_unsureWords rC_unsureWorths rL_supposed f_906 kL_supposed b_iC_nodes b_iC_unsures b_iC_throneNode a_fC_parts a_fC_partNodes) (cwV 2 hts (wd_V wd_949 wd_613 wd_614 wd_37 (wd_c wd_615)) rfl rfl rfl dv_yX4_weighAll_2 ⟨Nat.le_of_ble_eq_true rfl, Nat.le_of_ble_eq_true rfl⟩) ⟨Pw.fb, recvX4 hK hP (q0 := 0) rfl, fun U hU hW => Pw.to (hP.sub [0, 1, 3, 4, 5, 6, 7, 8, 2] rfl) (hD.sub [0, 1, 3, 4, 5, 6, 7, 8, 2] (by decide) rfl) (hK.sub [0, 2, 3, 4, 5, 6, 1] rfl) hE hS hFc hU hW⟩ rfl rfl hl.1 rfl (lv_room (Nat.le_of_ble_eq_true rfl)) dX4_throneBySet_53 ⟨Nat.le_of_ble_eq_true rfl, Nat.le_of_ble_eq_true rfl⟩) hS (fun q _ h => hFc q h) hFc (fun r u t H locs ht hvm hw hB hz1 hk1 hS => ?_)
        refine ex_1_0 hB (fun f_909 hB => ?_)
        obtain ⟨hP, hD, hK⟩ := Bw.go (ws' := [(oc5 oS rS_worths rS_order rS_left), (arI rS_worths kS_worths 18 fS_worths), (oc4 oL rL_values rL_supposed), (arI rL_values kL_values 18 f_909), (oc1 oC iC_nodes iC_words iC_chances iC_unsures iC_slips iC_throneNode iC_saidWorth iC_unit rC_kind rC_parts rC_partNodes rC_weights rC_weightSums rC_toldWorths rC_steps rC_below rC_above rC_unsureWords rC_unsureWorths), (arI rC_kind kC_kind 18 fC_kind), (arI rC_parts kC_parts 18 fC_parts), (arI rC_partNodes kC_partNodes 72 fC_partNodes), (arI rC_weights kC_weights 72 fC_weights), (arI rC_weightSums kC_weightSums 18 fC_weightSums), (arI rL_supposed kL_supposed 18 f_906)]) (tys' := [(kS_worths, .int), (kL_values, .int), (kC_kind, .int), (kC_parts, .int), (kC_partNodes, .int), (kC_weights, .int), (kC_weightSums, .int), (kL_supposed, .int)]) hB rfl ht hvm hP hD hK [0, 1, 3, 4, 5, 6, 7, 8, 2] [9, 10] rfl (by decide) (by decide) [7] hk1 hFc rfl rfl rfl
        clear hz1 hk1 hvm ht hB
        obtain ⟨x_910, rfl⟩ : ∃ z, z = r := ⟨_, rfl⟩
        have rg_x_910 := fb_rng x_910
        exact wq_i hx hb hr 0 ⟨trivial, trivial⟩ (fun t ht hW => ⟨f_909, f_906, Bw.to (hP.sub [2, 3, 10, 4, 5, 6, 7, 8, 9, 0, 1] rfl) (hD.sub [2, 3, 10, 4, 5, 6, 7, 8, 9, 0, 1] (by decide) rfl) (hK.sub [1, 7, 2, 3, 4, 5, 6, 0] rfl) ht hW⟩) hS dX4_throneBySet_56 hlocks
      · skip
        have gc_908 := ti_nle c_908 rfl rfl
        refine lv_aload_n hx hb dX4_throneBySet_12 rfl (lv_at hl 1 rfl) ?_
        refine va_get (D := (dC, dI)) (ci := 4) (v := .ref rL_supposed) (C := RX4) (T := TX4) (N := 2) hx hb hts inX4 hown hK hP 0 rfl rfl 1 (by decide) (hts _ wd_147) (fun _ h9 => h9) rfl dX4_throneBySet_13 ?_
        refine lv_iload hx hb dX4_throneBySet_16 (lv_at hl 0 rfl) ?_
        refine lv_iload_n hx hb dX4_throneBySet_18 rfl (lv_at hl 4 rfl) ?_
        refine lv_iload hx hb dX4_throneBySet_19 (lv_at hl 0 rfl) ?_
        refine lv_ishr hx hb dX4_throneBySet_21 ?_
        refine lv_topi (fun x_911 ex_911 => ?_)
        have rg_x_911 := fb_rng x_911
        refine lv_iconst (v := 1) hx hb dX4_throneBySet_22 (by decide) ?_
        refine lv_iand hx hb dX4_throneBySet_23 ?_
        refine lv_topi (fun x_912 ex_912 => ?_)
        have rg_x_912 := fb_rng x_912
        refine lv_iconst (v := 1) hx hb dX4_throneBySet_24 (by decide) ?_
        refine lv_icmp_ne (tgt := 38) hx hb dX4_throneBySet_25 (by decide) (fun c_913 => ?_) (fun c_913 => ?_)
        · skip
          have gc_913 := ti_ne c_913 rfl kc_1
          refine lv_iload hx hb dX4_throneBySet_38 (lv_at hl 5 rfl) ?_
          refine vz_iast hx hb hK hP hD hS 2 1 rfl rfl (ti_in rfl hi0_n_907.1 (om_97cd4a7c b_iC_nodes.2 gc_908)) dX4_throneBySet_40 (fun H locs f_914 hP hD hS => ?_)
          obtain ⟨hP, hD⟩ := wl2 (ws' := [(oc4 oL rL_values rL_supposed), (arI rL_values kL_values 18 fL_values), (arI rL_supposed kL_supposed 18 f_914), (oc1 oC iC_nodes iC_words iC_chances iC_unsures iC_slips iC_throneNode iC_saidWorth iC_unit rC_kind rC_parts rC_partNodes rC_weights rC_weightSums rC_toldWorths rC_steps rC_below rC_above rC_unsureWords rC_unsureWorths), (arI rC_kind kC_kind 18 fC_kind), (arI rC_parts kC_parts 18 fC_parts), (arI rC_partNodes kC_partNodes 72 fC_partNodes), (arI rC_weights kC_weights 72 fC_weights), (arI rC_weightSums kC_weightSums 18 fC_weightSums), (oc5 oS rS_worths rS_order rS_left), (arI rS_worths kS_worths 18 fS_worths)]) hP hD rfl
          obtain ⟨x_915, ex_915⟩ : ∃ z : Int32, z = z_905 + Int32.ofInt 1 := ⟨_, rfl⟩
          have vx_915 : x_915.toInt = z_905.toInt + 1 := ti_add (y := 1) ex_915 rfl kc_1 (om_4e4fce7e hi0_n_907.1) (om_a32d6481 b_iC_nodes.2 gc_908)
          refine lv_iinc (v := x_915) (lv' := [(5, .int x_915), (0, .ref oL), (1, .ref oC), (2, .ref oS), (3, .int p0), (4, .int p1)]) hx hb dX4_throneBySet_41 hl (k := 0) rfl ex_915.symm (by decide) rfl (fun ls hl => ?_)
          refine lv_goto (tgt := 3) hx hb dX4_throneBySet_44 (by decide) ?_
          exact ih_n_907 x_915 f_914 _ _ _  ⟨(om_83b90de5 hi0_n_907.1 vx_915), (om_ed8867da b_iC_nodes.2 gc_908 vx_915)⟩ (ms_lt hm_n_907 (om_b9393183 vx_915) (om_1d9fa7fb b_iC_nodes.2 gc_908)) hP hD hS (lv_sub hl [0, 1, 2, 3, 4, 5] rfl)
        · skip
          have gc_913 := ti_eq c_913 rfl kc_1
          refine lv_aload_n hx hb dX4_throneBySet_28 rfl (lv_at hl 3 rfl) ?_
          refine va_get (D := (dC, dI)) (ci := 5) (v := .ref rS_worths) (C := RX5) (T := TX5) (N := 3) hx hb hts inX5 hown hK hP 9 rfl rfl 0 (by decide) (hts _ wd_948) (fun _ h9 => h9) rfl dX4_throneBySet_29 ?_
          refine lv_iload hx hb dX4_throneBySet_32 (lv_at hl 0 rfl) ?_
          refine va_iald hx hb hK hP 10 7 rfl rfl (ti_in rfl hi0_n_907.1 (om_97cd4a7c b_iC_nodes.2 gc_908)) dX4_throneBySet_34 ?_
          refine lv_topi (fun x_916 ex_916 => ?_)
          have rg_x_916 := fb_rng x_916
          have kx_916 : (fS_worths z_905.toNatClampNeg).toInt = x_916.toInt := by rw [ex_916]
          refine lv_goto (tgt := 40) hx hb dX4_throneBySet_35 (by decide) ?_
          refine vz_iast hx hb hK hP hD hS 2 1 rfl rfl (ti_in rfl hi0_n_907.1 (om_97cd4a7c b_iC_nodes.2 gc_908)) dX4_throneBySet_40 (fun H locs f_917 hP hD hS => ?_)
          obtain ⟨hP, hD⟩ := wl2 (ws' := [(oc4 oL rL_values rL_supposed), (arI rL_values kL_values 18 fL_values), (arI rL_supposed kL_supposed 18 f_917), (oc1 oC iC_nodes iC_words iC_chances iC_unsures iC_slips iC_throneNode iC_saidWorth iC_unit rC_kind rC_parts rC_partNodes rC_weights rC_weightSums rC_toldWorths rC_steps rC_below rC_above rC_unsureWords rC_unsureWorths), (arI rC_kind kC_kind 18 fC_kind), (arI rC_parts kC_parts 18 fC_parts), (arI rC_partNodes kC_partNodes 72 fC_partNodes), (arI rC_weights kC_weights 72 fC_weights), (arI rC_weightSums kC_weightSums 18 fC_weightSums), (oc5 oS rS_worths rS_order rS_left), (arI rS_worths kS_worths 18 fS_worths)]) hP hD rfl
          obtain ⟨x_918, ex_918⟩ : ∃ z : Int32, z = z_905 + Int32.ofInt 1 := ⟨_, rfl⟩
          have vx_918 : x_918.toInt = z_905.toInt + 1 := ti_add (y := 1) ex_918 rfl kc_1 (om_4e4fce7e hi0_n_907.1) (om_a32d6481 b_iC_nodes.2 gc_908)
          refine lv_iinc (v := x_918) (lv' := [(5, .int x_918), (0, .ref oL), (1, .ref oC), (2, .ref oS), (3, .int p0), (4, .int p1)]) hx hb dX4_throneBySet_41 hl (k := 0) rfl ex_918.symm (by decide) rfl (fun ls hl => ?_)
          refine lv_goto (tgt := 3) hx hb dX4_throneBySet_44 (by decide) ?_
          exact ih_n_907 x_918 f_917 _ _ _  ⟨(om_83b90de5 hi0_n_907.1 vx_918), (om_ed8867da b_iC_nodes.2 gc_908 vx_918)⟩ (ms_lt hm_n_907 (om_b9393183 vx_918) (om_1d9fa7fb b_iC_nodes.2 gc_908)) hP hD hS (lv_sub hl [0, 1, 2, 3, 4, 5] rfl)
  exact key_n_907 (((2147483647 - (0 : Int32).toInt).toNat) + 1) 0 fL_supposed _ _ _  ⟨(om_b1de7dbe kc_0), (om_daf17c64 kc_0)⟩ (Nat.lt_add_one _) hP hD hS hl
set_option maxHeartbeats 4000000 in
set_option maxRecDepth 100000 in
theorem tX4_throneByUnsure (l : Launch) (dC : Nat → ClassId) (dI : Nat → Nat → Nat) (sz : Nat) (oL : Nat) (rL_values : Nat) (fL_values : Nat → Int32) (kL_values : ClassId) (rL_supposed : Nat) (fL_supposed : Nat → Int32) (kL_supposed : ClassId) (oC : Nat) (iC_nodes : Int32) (iC_words : Int32) (iC_chances : Int32) (iC_unsures : Int32) (iC_slips : Int32) (iC_throneNode : Int32) (iC_saidWorth : Int32) (iC_unit : Int32) (rC_kind : Nat) (fC_kind : Nat → Int32) (kC_kind : ClassId) (rC_parts : Nat) (fC_parts : Nat → Int32) (kC_parts : ClassId) (rC_partNodes : Nat) (fC_partNodes : Nat → Int32) (kC_partNodes : ClassId) (rC_weights : Nat) (fC_weights : Nat → Int32) (kC_weights : ClassId) (rC_weightSums : Nat) (fC_weightSums : Nat → Int32) (kC_weightSums : ClassId) (rC_toldWorths : Nat) (rC_steps : Nat) (rC_below : Nat) (rC_above : Nat) (rC_unsureWords : Nat) (fC_unsureWords : Nat → Int32) (kC_unsureWords : ClassId) (rC_unsureWorths : Nat) (fC_unsureWorths : Nat → Int32) (kC_unsureWorths : ClassId) (rW : Nat) (fW : Nat → Int32) (kW : ClassId) (p0 : Int32) (b_iC_nodes : 0 ≤ iC_nodes.toInt ∧ iC_nodes.toInt ≤ 18) (b_iC_unsures : 0 ≤ iC_unsures.toInt ∧ iC_unsures.toInt ≤ 4) (b_iC_throneNode : (-1) ≤ iC_throneNode.toInt ∧ iC_throneNode.toInt ≤ 17) (a_fC_parts : ∀ j : Nat, j < 18 → 0 ≤ (fC_parts j).toInt ∧ (fC_parts j).toInt ≤ 4) (a_fC_partNodes : ∀ j : Nat, j < 72 → 0 ≤ (fC_partNodes j).toInt ∧ (fC_partNodes j).toInt ≤ 17) (a_fC_unsureWords : ∀ j : Nat, j < 4 → 0 ≤ (fC_unsureWords j).toInt ∧ (fC_unsureWords j).toInt ≤ 17)  : Met l yX4_throneByUnsure (Cond.code yX4_throneByUnsure cX4_throneByUnsure 5 (some .int) :: wG) ({ frames := 3, cells := 0, slots := 0, locals := 71 }) (va_Pc [.ref oL, .ref oC, .ref rW, .int p0] (Pw dC dI sz [(oc4 oL rL_values rL_supposed), (arI rL_values kL_values 18 fL_values), (arI rL_supposed kL_supposed 18 fL_supposed), (oc1 oC iC_nodes iC_words iC_chances iC_unsures iC_slips iC_throneNode iC_saidWorth iC_unit rC_kind rC_parts rC_partNodes rC_weights rC_weightSums rC_toldWorths rC_steps rC_below rC_above rC_unsureWords rC_unsureWorths), (arI rC_kind kC_kind 18 fC_kind), (arI rC_parts kC_parts 18 fC_parts), (arI rC_partNodes kC_partNodes 72 fC_partNodes), (arI rC_weights kC_weights 72 fC_weights), (arI rC_weightSums kC_weightSums 18 fC_weightSums), (arI rC_unsureWords kC_unsureWords 4 fC_unsureWords), (arI rC_unsureWorths kC_unsureWorths 4 fC_unsureWorths), (arI rW kW 18 fW)] [(kL_values, .int), (kL_supposed, .int), (kC_kind, .int), (kC_parts, .int), (kC_partNodes, .int), (kC_weights, .int), (kC_weightSums, .int), (kC_unsureWords, .int), (kC_unsureWorths, .int), (kW, .int)])) (va_Qi (fun (r : Int32) (_ : Nat) => True ∧ True) (fun (_ : Nat) (t : State) => ∃ (nfL_values : Nat → Int32) (nfL_supposed : Nat → Int32), Bw dC dI (va_A [(oc4 oL rL_values rL_supposed), (arI rL_values kL_values 18 fL_values), (arI rL_supposed kL_supposed 18 fL_supposed), (oc1 oC iC_nodes iC_words iC_chances iC_unsures iC_slips iC_throneNode iC_saidWorth iC_unit rC_kind rC_parts rC_partNodes rC_weights rC_weightSums rC_toldWorths rC_steps rC_below rC_above rC_unsureWords rC_unsureWorths), (arI rC_kind kC_kind 18 fC_kind), (arI rC_parts kC_parts 18 fC_parts), (arI rC_partNodes kC_partNodes 72 fC_partNodes), (arI rC_weights kC_weights 72 fC_weights), (arI rC_weightSums kC_weightSums 18 fC_weightSums), (arI rC_unsureWords kC_unsureWords 4 fC_unsureWords), (arI rC_unsureWorths kC_unsureWorths 4 fC_unsureWorths), (arI rW kW 18 fW)] sz) [(oc4 oL rL_values rL_supposed), (arI rL_values kL_values 18 nfL_values), (arI rL_supposed kL_supposed 18 nfL_supposed), (oc1 oC iC_nodes iC_words iC_chances iC_unsures iC_slips iC_throneNode iC_saidWorth iC_unit rC_kind rC_parts rC_partNodes rC_weights rC_weightSums rC_toldWorths rC_steps rC_below rC_above rC_unsureWords rC_unsureWorths), (arI rC_kind kC_kind 18 fC_kind), (arI rC_parts kC_parts 18 fC_parts), (arI rC_partNodes kC_partNodes 72 fC_partNodes), (arI rC_weights kC_weights 72 fC_weights), (arI rC_weightSums kC_weightSums 18 fC_weightSums), (arI rC_unsureWords kC_unsureWords 4 fC_unsureWords), (arI rC_unsureWorths kC_unsureWorths 4 fC_unsureWorths), (arI rW kW 18 fW)] [(kL_values, .int), (kL_supposed, .int), (kC_kind, .int), (kC_parts, .int), (kC_partNodes, .int), (kC_weights, .int), (kC_weightSums, .int), (kC_unsureWords, .int), (kC_unsureWorths, .int), (kW, .int)] t) (va_A [(oc4 oL rL_values rL_supposed), (arI rL_values kL_values 18 fL_values), (arI rL_supposed kL_supposed 18 fL_supposed), (oc1 oC iC_nodes iC_words iC_chances iC_unsures iC_slips iC_throneNode iC_saidWorth iC_unit rC_kind rC_parts rC_partNodes rC_weights rC_weightSums rC_toldWorths rC_steps rC_below rC_above rC_unsureWords rC_unsureWorths), (arI rC_kind kC_kind 18 fC_kind), (arI rC_parts kC_parts 18 fC_parts), (arI rC_partNodes kC_partNodes 72 fC_partNodes), (arI rC_weights kC_weights 72 fC_weights), (arI rC_weightSums kC_weightSums 18 fC_weightSums), (arI rC_unsureWords kC_unsureWords 4 fC_unsureWords), (arI rC_unsureWorths kC_unsureWorths 4 fC_unsureWorths), (arI rW kW 18 fW)] sz)) 0 0 (va_A [(oc4 oL rL_values rL_supposed), (arI rL_values kL_values 18 fL_values), (arI rL_supposed kL_supposed 18 fL_supposed), (oc1 oC iC_nodes iC_words iC_chances iC_unsures iC_slips iC_throneNode iC_saidWorth iC_unit rC_kind rC_parts rC_partNodes rC_weights rC_weightSums rC_toldWorths rC_steps rC_below rC_above rC_unsureWords rC_unsureWorths), (arI rC_kind kC_kind 18 fC_kind), (arI rC_parts kC_parts 18 fC_parts), (arI rC_partNodes kC_partNodes 72 fC_partNodes), (arI rC_weights kC_weights 72 fC_weights), (arI rC_weightSums kC_weightSums 18 fC_weightSums), (arI rC_unsureWords kC_unsureWords 4 fC_unsureWords), (arI rC_unsureWorths kC_unsureWorths 4 fC_unsureWorths), (arI rW kW 18 fW)] sz) := by
  refine Met.ofW (cc := cX4_throneByUnsure) (maxL := 5) (ret := (some .int)) pnX4 rfl ?_
  intro p e s m args below meth c s₁ B hml hv
  obtain ⟨rfl, hsz, hP, hK, hD0, hE⟩ := hv
  have hx := B.exec
  have hb := B.bytes
  have hr := B.returns
  have hts : ∀ w ∈ wG, w.before ([.ref oL, .ref oC, .ref rW, .int p0] : List Value).toArray s = true := fun w h => atoms_spec (ws := Cond.code yX4_throneByUnsure cX4_throneByUnsure 5 (some .int) :: wG) B.pre w (List.mem_cons_of_mem _ h)
  have hown : s.vm.findClass RX4 = some m.cls := own_of B.named rfl
  have hlocks := B.notSynchronized
  subst hsz
  have hD := hD0.self (sz := s.heap.size)
  generalize hAe : va_A [(oc4 oL rL_values rL_supposed), (arI rL_values kL_values 18 fL_values), (arI rL_supposed kL_supposed 18 fL_supposed), (oc1 oC iC_nodes iC_words iC_chances iC_unsures iC_slips iC_throneNode iC_saidWorth iC_unit rC_kind rC_parts rC_partNodes rC_weights rC_weightSums rC_toldWorths rC_steps rC_below rC_above rC_unsureWords rC_unsureWorths), (arI rC_kind kC_kind 18 fC_kind), (arI rC_parts kC_parts 18 fC_parts), (arI rC_partNodes kC_partNodes 72 fC_partNodes), (arI rC_weights kC_weights 72 fC_weights), (arI rC_weightSums kC_weightSums 18 fC_weightSums), (arI rC_unsureWords kC_unsureWords 4 fC_unsureWords), (arI rC_unsureWorths kC_unsureWorths 4 fC_unsureWorths), (arI rW kW 18 fW)] s.heap.size = A at hD hE ⊢
  have hA : ∀ q : Nat, s.heap.size ≤ q → A q := fun q h => by rw [← hAe]; exact Or.inr h
  have hS : va_S A s.heap s.heap [] := va_S.rf
  have hl := lv_entry ([.ref oL, .ref oC, .ref rW, .int p0]) (n := 5) (Nat.le_of_ble_eq_true rfl)
  rw [lg_entry_eq]
  generalize (lg_sl ([.ref oL, .ref oC, .ref rW, .int p0]) ++ List.replicate (5 - (lg_sl ([.ref oL, .ref oC, .ref rW, .int p0])).length) Slot.unset).toArray = ls at hl ⊢
  have hl : lv_has ls 5 [(0, .ref oL), (1, .ref oC), (2, .ref rW), (3, .int p0)] := hl
  have rg_p0 := fb_rng p0
  refine lv_aload_n hx hb dX4_throneByUnsure_0 rfl (lv_at hl 2 rfl) ?_
  refine lv_iconst (v := 0) hx hb dX4_throneByUnsure_1 (by decide) ?_
  refine lv_aload_n hx hb dX4_throneByUnsure_2 rfl (lv_at hl 0 rfl) ?_
  refine va_get (D := (dC, dI)) (ci := 4) (v := .ref rL_supposed) (C := RX4) (T := TX4) (N := 2) hx hb hts inX4 hown hK hP 0 rfl rfl 1 (by decide) (hts _ wd_147) (fun _ h9 => h9) rfl dX4_throneByUnsure_3 ?_
  refine lv_iconst (v := 0) hx hb dX4_throneByUnsure_6 (by decide) ?_
  refine lv_bipush (v := 18) hx hb dX4_throneByUnsure_7 (by decide) ?_
  refine vz_copyi hx hb (hml.trans hl.1.symm) hown (hts _ wd_1134) (hts _ wd_1016) (hts _ wd_1017) (hts _ wd_1018) hK hP hD hS 11 2 9 1 rfl rfl rfl rfl (k := 18) (by decide) (by decide) (Nat.le_of_ble_eq_true rfl) (Nat.le_of_ble_eq_true (by decide +kernel)) dX4_throneByUnsure_9 (fun H locs f_948 c_f_948 hP hD hS => ?_)
  obtain ⟨hP, hD⟩ := wl2 (ws' := [(oc4 oL rL_values rL_supposed), (arI rL_values kL_values 18 fL_values), (arI rL_supposed kL_supposed 18 f_948), (oc1 oC iC_nodes iC_words iC_chances iC_unsures iC_slips iC_throneNode iC_saidWorth iC_unit rC_kind rC_parts rC_partNodes rC_weights rC_weightSums rC_toldWorths rC_steps rC_below rC_above rC_unsureWords rC_unsureWorths), (arI rC_kind kC_kind 18 fC_kind), (arI rC_parts kC_parts 18 fC_parts), (arI rC_partNodes kC_partNodes 72 fC_partNodes), (arI rC_weights kC_weights 72 fC_weights), (arI rC_weightSums kC_weightSums 18 fC_weightSums), (arI rC_unsureWords kC_unsureWords 4 fC_unsureWords), (arI rC_unsureWorths kC_unsureWorths 4 fC_unsureWorths), (arI rW kW 18 fW)]) hP hD rfl
  refine lv_iconst (v := 0) hx hb dX4_throneByUnsure_12 (by decide) ?_
  refine lv_istore (lv' := [(4, .int 0), (0, .ref oL), (1, .ref oC), (2, .ref rW), (3, .int p0)]) hx hb dX4_throneByUnsure_13 hl (by decide) rfl (fun ls hl => ?_)
  have hl := lv_sub hl (l' := [(4, .int 0), (0, .ref oL), (1, .ref oC), (2, .ref rW), (3, .int p0)]) [0, 1, 2, 3, 4] rfl
  have key_n_951 : ∀ (n_951 : Nat) (z_949 : Int32) (f_950 : Nat → Int32) (H : Heap) (locs : List Loc) (ls : Array Slot), (0 ≤ z_949.toInt ∧ z_949.toInt ≤ 2147483647) → (2147483647 - z_949.toInt).toNat < n_951 → va_P (dC, dI) vwCl [(oc4 oL rL_values rL_supposed), (arI rL_values kL_values 18 fL_values), (arI rL_supposed kL_supposed 18 f_950), (oc1 oC iC_nodes iC_words iC_chances iC_unsures iC_slips iC_throneNode iC_saidWorth iC_unit rC_kind rC_parts rC_partNodes rC_weights rC_weightSums rC_toldWorths rC_steps rC_below rC_above rC_unsureWords rC_unsureWorths), (arI rC_kind kC_kind 18 fC_kind), (arI rC_parts kC_parts 18 fC_parts), (arI rC_partNodes kC_partNodes 72 fC_partNodes), (arI rC_weights kC_weights 72 fC_weights), (arI rC_weightSums kC_weightSums 18 fC_weightSums), (arI rC_unsureWords kC_unsureWords 4 fC_unsureWords), (arI rC_unsureWorths kC_unsureWorths 4 fC_unsureWorths), (arI rW kW 18 fW)] H → va_D A [(oc4 oL rL_values rL_supposed), (arI rL_values kL_values 18 fL_values), (arI rL_supposed kL_supposed 18 f_950), (oc1 oC iC_nodes iC_words iC_chances iC_unsures iC_slips iC_throneNode iC_saidWorth iC_unit rC_kind rC_parts rC_partNodes rC_weights rC_weightSums rC_toldWorths rC_steps rC_below rC_above rC_unsureWords rC_unsureWorths), (arI rC_kind kC_kind 18 fC_kind), (arI rC_parts kC_parts 18 fC_parts), (arI rC_partNodes kC_partNodes 72 fC_partNodes), (arI rC_weights kC_weights 72 fC_weights), (arI rC_weightSums kC_weightSums 18 fC_weightSums), (arI rC_unsureWords kC_unsureWords 4 fC_unsureWords), (arI rC_unsureWorths kC_unsureWorths 4 fC_unsureWorths), (arI rW kW 18 fW)] → va_S A s.heap H locs → lv_has ls 5 [(4, .int z_949), (0, .ref oL), (1, .ref oC), (2, .ref rW), (3, .int p0)] → W p l e (headSpec (Cond.code yX4_throneByUnsure cX4_throneByUnsure 5 (some .int) :: wG) ({ frames := 3, cells := 0, slots := 0, locals := 71 })).room s m ([.ref oL, .ref oC, .ref rW, .int p0] : List Value).toArray below meth c H locs 0 0 (MQ below (va_Qi (fun (r : Int32) (_ : Nat) => True ∧ True) (fun (_ : Nat) (t : State) => ∃ (nfL_values : Nat → Int32) (nfL_supposed : Nat → Int32), Bw dC dI A [(oc4 oL rL_values rL_supposed), (arI rL_values kL_values 18 nfL_values), (arI rL_supposed kL_supposed 18 nfL_supposed), (oc1 oC iC_nodes iC_words iC_chances iC_unsures iC_slips iC_throneNode iC_saidWorth iC_unit rC_kind rC_parts rC_partNodes rC_weights rC_weightSums rC_toldWorths rC_steps rC_below rC_above rC_unsureWords rC_unsureWorths), (arI rC_kind kC_kind 18 fC_kind), (arI rC_parts kC_parts 18 fC_parts), (arI rC_partNodes kC_partNodes 72 fC_partNodes), (arI rC_weights kC_weights 72 fC_weights), (arI rC_weightSums kC_weightSums 18 fC_weightSums), (arI rC_unsureWords kC_unsureWords 4 fC_unsureWords), (arI rC_unsureWorths kC_unsureWorths 4 fC_unsureWorths), (arI rW kW 18 fW)] [(kL_values, .int), (kL_supposed, .int), (kC_kind, .int), (kC_parts, .int), (kC_partNodes, .int), (kC_weights, .int), (kC_weightSums, .int), (kC_unsureWords, .int), (kC_unsureWorths, .int), (kW, .int)] t) A) ([.ref oL, .ref oC, .ref rW, .int p0] : List Value).toArray s 0 0 A) (F0 m 15 ls []) := by
    intro n_951
    induction n_951 with
    | zero => intro z_949 f_950 H locs ls hi0_n_951 hm; exact absurd hm (Nat.not_lt_zero _)
    | succ n_951 ih_n_951 =>
      intro z_949 f_950 H locs ls hi0_n_951 hm_n_951 hP hD hS hl
      have rg_z_949 := fb_rng z_949
      refine lv_iload hx hb dX4_throneByUnsure_15 (lv_at hl 0 rfl) ?_
      refine lv_aload_n hx hb dX4_throneByUnsure_17 rfl (lv_at hl 2 rfl) ?_
      refine va_get (D := (dC, dI)) (ci := 1) (v := .int iC_unsures) (C := RX1) (T := TX1) (N := 19) hx hb hts inX1 hown hK hP 3 rfl rfl 3 (by decide) (hts _ wd_1173) (fun _ h9 => h9) rfl dX4_throneByUnsure_18 ?_
      have rg_iC_unsures := fb_rng iC_unsures
      refine lv_icmp_ge (tgt := 59) hx hb dX4_throneByUnsure_21 (by decide) (fun c_952 => ?_) (fun c_952 => ?_)
      · skip
        have gc_952 := ti_le c_952 rfl rfl
        refine lv_aload_n hx hb dX4_throneByUnsure_59 rfl (lv_at hl 1 rfl) ?_
        refine lv_aload_n hx hb dX4_throneByUnsure_60 rfl (lv_at hl 2 rfl) ?_
        refine lv_aload_n hx hb dX4_throneByUnsure_61 rfl (lv_at hl 1 rfl) ?_
        refine va_get (D := (dC, dI)) (ci := 4) (v := .ref rL_supposed) (C := RX4) (T := TX4) (N := 2) hx hb hts inX4 hown hK hP 0 rfl rfl 1 (by decide) (hts _ wd_147) (fun _ h9 => h9) rfl dX4_throneByUnsure_62 ?_
        have hFc := va_free (wc := [(oc4 oL rL_values rL_supposed), (arI rL_values kL_values 18 fL_values), (oc1 oC iC_nodes iC_words iC_chances iC_unsures iC_slips iC_throneNode iC_saidWorth iC_unit rC_kind rC_parts rC_partNodes rC_weights rC_weightSums rC_toldWorths rC_steps rC_below rC_above rC_unsureWords rC_unsureWorths), (arI rC_kind kC_kind 18 fC_kind), (arI rC_parts kC_parts 18 fC_parts), (arI rC_partNodes kC_partNodes 72 fC_partNodes), (arI rC_weights kC_weights 72 fC_weights), (arI rC_weightSums kC_weightSums 18 fC_weightSums), (arI rL_supposed kL_supposed 18 f_950)]) hD hS hA [0, 1, 3, 4, 5, 6, 7, 8, 2] rfl
        refine va_calli (va_runV (As := [.ref oC, .ref rL_supposed]) (rest := []) ⟨hx, hb, hml, hown, hts⟩ (tX4_weighAll l dC dI _ oL rL_values fL_values kL_values rL_supposed oC iC_nodes iC_words iC_chances iC_unsures iC_slips iC_throneNode iC_saidWorth iC_unit rC_kind fC_kind kC_kind rC_parts fC_parts kC_parts rC_partNodes fC_partNodes kC_partNodes rC_weights fC_weights kC_weights rC_weightSums fC_weightSums kC_weightSums rC_toldWorths rC_steps rC_below rC_above rC_unsureWords rC_unsureWorths rL_supposed f_950 kL_supposed b_iC_nodes b_iC_unsures b_iC_throneNode a_fC_parts a_fC_partNodes) (cwV 2 hts (wd_V wd_949 wd_613 wd_614 wd_37 (wd_c wd_615)) rfl rfl rfl dv_yX4_weighAll_2 ⟨Nat.le_of_ble_eq_true rfl, Nat.le_of_ble_eq_true rfl⟩) ⟨Pw.fb, recvX4 hK hP (q0 := 0) rfl, fun U hU hW => Pw.to (hP.sub [0, 1, 3, 4, 5, 6, 7, 8, 2] rfl) (hD.sub [0, 1, 3, 4, 5, 6, 7, 8, 2] (by decide) rfl) (hK.sub [0, 2, 3, 4, 5, 6, 1] rfl) hE hS hFc hU hW⟩ rfl rfl hl.1 rfl (lv_room (Nat.le_of_ble_eq_true rfl)) dX4_throneByUnsure_65 ⟨Nat.le_of_ble_eq_true rfl, Nat.le_of_ble_eq_true rfl⟩) hS (fun q _ h => hFc q h) hFc (fun r u t H locs ht hvm hw hB hz1 hk1 hS => ?_)
        refine ex_1_0 hB (fun f_953 hB => ?_)
        obtain ⟨hP, hD, hK⟩ := Bw.go (ws' := [(arI rC_unsureWords kC_unsureWords 4 fC_unsureWords), (arI rC_unsureWorths kC_unsureWorths 4 fC_unsureWorths), (arI rW kW 18 fW), (oc4 oL rL_values rL_supposed), (arI rL_values kL_values 18 f_953), (oc1 oC iC_nodes iC_words iC_chances iC_unsures iC_slips iC_throneNode iC_saidWorth iC_unit rC_kind rC_parts rC_partNodes rC_weights rC_weightSums rC_toldWorths rC_steps rC_below rC_above rC_unsureWords rC_unsureWorths), (arI rC_kind kC_kind 18 fC_kind), (arI rC_parts kC_parts 18 fC_parts), (arI rC_partNodes kC_partNodes 72 fC_partNodes), (arI rC_weights kC_weights 72 fC_weights), (arI rC_weightSums kC_weightSums 18 fC_weightSums), (arI rL_supposed kL_supposed 18 f_950)]) (tys' := [(kC_unsureWords, .int), (kC_unsureWorths, .int), (kW, .int), (kL_values, .int), (kC_kind, .int), (kC_parts, .int), (kC_partNodes, .int), (kC_weights, .int), (kC_weightSums, .int), (kL_supposed, .int)]) hB rfl ht hvm hP hD hK [0, 1, 3, 4, 5, 6, 7, 8, 2] [9, 10, 11] rfl (by decide) (by decide) [7, 8, 9] hk1 hFc rfl rfl rfl
        clear hz1 hk1 hvm ht hB
        obtain ⟨x_954, rfl⟩ : ∃ z, z = r := ⟨_, rfl⟩
        have rg_x_954 := fb_rng x_954
        exact wq_i hx hb hr 0 ⟨trivial, trivial⟩ (fun t ht hW => ⟨f_953, f_950, Bw.to (hP.sub [3, 4, 11, 5, 6, 7, 8, 9, 10, 0, 1, 2] rfl) (hD.sub [3, 4, 11, 5, 6, 7, 8, 9, 10, 0, 1, 2] (by decide) rfl) (hK.sub [3, 9, 4, 5, 6, 7, 8, 0, 1, 2] rfl) ht hW⟩) hS dX4_throneByUnsure_68 hlocks
      · skip
        have gc_952 := ti_nle c_952 rfl rfl
        refine lv_iload_n hx hb dX4_throneByUnsure_24 rfl (lv_at hl 4 rfl) ?_
        refine lv_iload hx hb dX4_throneByUnsure_25 (lv_at hl 0 rfl) ?_
        refine lv_ishr hx hb dX4_throneByUnsure_27 ?_
        refine lv_topi (fun x_955 ex_955 => ?_)
        have rg_x_955 := fb_rng x_955
        refine lv_iconst (v := 1) hx hb dX4_throneByUnsure_28 (by decide) ?_
        refine lv_iand hx hb dX4_throneByUnsure_29 ?_
        refine lv_topi (fun x_956 ex_956 => ?_)
        have rg_x_956 := fb_rng x_956
        refine lv_iconst (v := 1) hx hb dX4_throneByUnsure_30 (by decide) ?_
        refine lv_icmp_ne (tgt := 53) hx hb dX4_throneByUnsure_31 (by decide) (fun c_957 => ?_) (fun c_957 => ?_)
        · skip
          have gc_957 := ti_ne c_957 rfl kc_1
          obtain ⟨x_958, ex_958⟩ : ∃ z : Int32, z = z_949 + Int32.ofInt 1 := ⟨_, rfl⟩
          have vx_958 : x_958.toInt = z_949.toInt + 1 := ti_add (y := 1) ex_958 rfl kc_1 (om_4e4fce7e hi0_n_951.1) (om_0ca29412 b_iC_unsures.2 gc_952)
          refine lv_iinc (v := x_958) (lv' := [(4, .int x_958), (0, .ref oL), (1, .ref oC), (2, .ref rW), (3, .int p0)]) hx hb dX4_throneByUnsure_53 hl (k := 0) rfl ex_958.symm (by decide) rfl (fun ls hl => ?_)
          refine lv_goto (tgt := 15) hx hb dX4_throneByUnsure_56 (by decide) ?_
          exact ih_n_951 x_958 f_950 _ _ _  ⟨(om_83b90de5 hi0_n_951.1 vx_958), (om_008057e4 b_iC_unsures.2 gc_952 vx_958)⟩ (ms_lt hm_n_951 (om_b9393183 vx_958) (om_349eab4e b_iC_unsures.2 gc_952)) hP hD hS (lv_sub hl [0, 1, 2, 3, 4] rfl)
        · skip
          have gc_957 := ti_eq c_957 rfl kc_1
          refine lv_aload_n hx hb dX4_throneByUnsure_34 rfl (lv_at hl 1 rfl) ?_
          refine va_get (D := (dC, dI)) (ci := 4) (v := .ref rL_supposed) (C := RX4) (T := TX4) (N := 2) hx hb hts inX4 hown hK hP 0 rfl rfl 1 (by decide) (hts _ wd_147) (fun _ h9 => h9) rfl dX4_throneByUnsure_35 ?_
          refine lv_aload_n hx hb dX4_throneByUnsure_38 rfl (lv_at hl 2 rfl) ?_
          refine va_get (D := (dC, dI)) (ci := 1) (v := .ref rC_unsureWords) (C := RX1) (T := TX1) (N := 19) hx hb hts inX1 hown hK hP 3 rfl rfl 17 (by decide) (hts _ wd_1174) (fun _ h9 => h9) rfl dX4_throneByUnsure_39 ?_
          refine lv_iload hx hb dX4_throneByUnsure_42 (lv_at hl 0 rfl) ?_
          refine va_iald hx hb hK hP 9 7 rfl rfl (ti_in rfl hi0_n_951.1 (om_2470ff38 b_iC_unsures.2 gc_952)) dX4_throneByUnsure_44 ?_
          refine lv_topi (fun x_959 ex_959 => ?_)
          have rg_x_959 := fb_rng x_959
          have kx_959 : (fC_unsureWords z_949.toNatClampNeg).toInt = x_959.toInt := by rw [ex_959]
          have ux_959 := a_fC_unsureWords z_949.toNatClampNeg (cl_lt rfl hi0_n_951.1 (om_2470ff38 b_iC_unsures.2 gc_952))
          rw [show fC_unsureWords z_949.toNatClampNeg = x_959 from ex_959.symm] at ux_959
          refine lv_aload_n hx hb dX4_throneByUnsure_45 rfl (lv_at hl 2 rfl) ?_
          refine va_get (D := (dC, dI)) (ci := 1) (v := .ref rC_unsureWorths) (C := RX1) (T := TX1) (N := 19) hx hb hts inX1 hown hK hP 3 rfl rfl 18 (by decide) (hts _ wd_1175) (fun _ h9 => h9) rfl dX4_throneByUnsure_46 ?_
          refine lv_iload hx hb dX4_throneByUnsure_49 (lv_at hl 0 rfl) ?_
          refine va_iald hx hb hK hP 10 8 rfl rfl (ti_in rfl hi0_n_951.1 (om_2470ff38 b_iC_unsures.2 gc_952)) dX4_throneByUnsure_51 ?_
          refine lv_topi (fun x_960 ex_960 => ?_)
          have rg_x_960 := fb_rng x_960
          have kx_960 : (fC_unsureWorths z_949.toNatClampNeg).toInt = x_960.toInt := by rw [ex_960]
          refine vz_iast hx hb hK hP hD hS 2 1 rfl rfl (ti_in rfl ux_959.1 (om_b3735a34 ux_959.2)) dX4_throneByUnsure_52 (fun H locs f_961 hP hD hS => ?_)
          obtain ⟨hP, hD⟩ := wl2 (ws' := [(oc4 oL rL_values rL_supposed), (arI rL_values kL_values 18 fL_values), (arI rL_supposed kL_supposed 18 f_961), (oc1 oC iC_nodes iC_words iC_chances iC_unsures iC_slips iC_throneNode iC_saidWorth iC_unit rC_kind rC_parts rC_partNodes rC_weights rC_weightSums rC_toldWorths rC_steps rC_below rC_above rC_unsureWords rC_unsureWorths), (arI rC_kind kC_kind 18 fC_kind), (arI rC_parts kC_parts 18 fC_parts), (arI rC_partNodes kC_partNodes 72 fC_partNodes), (arI rC_weights kC_weights 72 fC_weights), (arI rC_weightSums kC_weightSums 18 fC_weightSums), (arI rC_unsureWords kC_unsureWords 4 fC_unsureWords), (arI rC_unsureWorths kC_unsureWorths 4 fC_unsureWorths), (arI rW kW 18 fW)]) hP hD rfl
          obtain ⟨x_962, ex_962⟩ : ∃ z : Int32, z = z_949 + Int32.ofInt 1 := ⟨_, rfl⟩
          have vx_962 : x_962.toInt = z_949.toInt + 1 := ti_add (y := 1) ex_962 rfl kc_1 (om_4e4fce7e hi0_n_951.1) (om_0ca29412 b_iC_unsures.2 gc_952)
          refine lv_iinc (v := x_962) (lv' := [(4, .int x_962), (0, .ref oL), (1, .ref oC), (2, .ref rW), (3, .int p0)]) hx hb dX4_throneByUnsure_53 hl (k := 0) rfl ex_962.symm (by decide) rfl (fun ls hl => ?_)
          refine lv_goto (tgt := 15) hx hb dX4_throneByUnsure_56 (by decide) ?_
          exact ih_n_951 x_962 f_961 _ _ _  ⟨(om_83b90de5 hi0_n_951.1 vx_962), (om_008057e4 b_iC_unsures.2 gc_952 vx_962)⟩ (ms_lt hm_n_951 (om_b9393183 vx_962) (om_349eab4e b_iC_unsures.2 gc_952)) hP hD hS (lv_sub hl [0, 1, 2, 3, 4] rfl)
  exact key_n_951 (((2147483647 - (0 : Int32).toInt).toNat) + 1) 0 f_948 _ _ _  ⟨(om_b1de7dbe kc_0), (om_daf17c64 kc_0)⟩ (Nat.lt_add_one _) hP hD hS hl
set_option maxHeartbeats 4000000 in
set_option maxRecDepth 100000 in
theorem tX4_waysDown (l : Launch) (dC : Nat → ClassId) (dI : Nat → Nat → Nat) (sz : Nat) (oL : Nat) (rL_values : Nat) (fL_values : Nat → Int32) (kL_values : ClassId) (rL_supposed : Nat) (oC : Nat) (iC_nodes : Int32) (iC_words : Int32) (iC_chances : Int32) (iC_unsures : Int32) (iC_slips : Int32) (iC_throneNode : Int32) (iC_saidWorth : Int32) (iC_unit : Int32) (rC_kind : Nat) (fC_kind : Nat → Int32) (kC_kind : ClassId) (rC_parts : Nat) (fC_parts : Nat → Int32) (kC_parts : ClassId) (rC_partNodes : Nat) (fC_partNodes : Nat → Int32) (kC_partNodes : ClassId) (rC_weights : Nat) (rC_weightSums : Nat) (rC_toldWorths : Nat) (rC_steps : Nat) (rC_below : Nat) (rC_above : Nat) (rC_unsureWords : Nat) (rC_unsureWorths : Nat) (b_iC_nodes : 0 ≤ iC_nodes.toInt ∧ iC_nodes.toInt ≤ 18) (b_iC_unsures : 0 ≤ iC_unsures.toInt ∧ iC_unsures.toInt ≤ 4) (b_iC_throneNode : (-1) ≤ iC_throneNode.toInt ∧ iC_throneNode.toInt ≤ 17) (a_fC_parts : ∀ j : Nat, j < 18 → 0 ≤ (fC_parts j).toInt ∧ (fC_parts j).toInt ≤ 4) (a_fC_partNodes : ∀ j : Nat, j < 72 → 0 ≤ (fC_partNodes j).toInt ∧ (fC_partNodes j).toInt ≤ 17)  : Met l yX4_waysDown (Cond.code yX4_waysDown cX4_waysDown 4 (some .int) :: wG) ({ frames := 2, cells := 0, slots := 0, locals := 42 }) (va_Pc [.ref oL, .ref oC] (Pw dC dI sz [(oc4 oL rL_values rL_supposed), (arI rL_values kL_values 18 fL_values), (oc1 oC iC_nodes iC_words iC_chances iC_unsures iC_slips iC_throneNode iC_saidWorth iC_unit rC_kind rC_parts rC_partNodes rC_weights rC_weightSums rC_toldWorths rC_steps rC_below rC_above rC_unsureWords rC_unsureWorths), (arI rC_kind kC_kind 18 fC_kind), (arI rC_parts kC_parts 18 fC_parts), (arI rC_partNodes kC_partNodes 72 fC_partNodes)] [(kL_values, .int), (kC_kind, .int), (kC_parts, .int), (kC_partNodes, .int)])) (va_Qi (fun (r : Int32) (_ : Nat) => True ∧ True) (fun (_ : Nat) (t : State) => ∃ (nfL_values : Nat → Int32), Bw dC dI (va_A [(oc4 oL rL_values rL_supposed), (arI rL_values kL_values 18 fL_values), (oc1 oC iC_nodes iC_words iC_chances iC_unsures iC_slips iC_throneNode iC_saidWorth iC_unit rC_kind rC_parts rC_partNodes rC_weights rC_weightSums rC_toldWorths rC_steps rC_below rC_above rC_unsureWords rC_unsureWorths), (arI rC_kind kC_kind 18 fC_kind), (arI rC_parts kC_parts 18 fC_parts), (arI rC_partNodes kC_partNodes 72 fC_partNodes)] sz) [(oc4 oL rL_values rL_supposed), (arI rL_values kL_values 18 nfL_values), (oc1 oC iC_nodes iC_words iC_chances iC_unsures iC_slips iC_throneNode iC_saidWorth iC_unit rC_kind rC_parts rC_partNodes rC_weights rC_weightSums rC_toldWorths rC_steps rC_below rC_above rC_unsureWords rC_unsureWorths), (arI rC_kind kC_kind 18 fC_kind), (arI rC_parts kC_parts 18 fC_parts), (arI rC_partNodes kC_partNodes 72 fC_partNodes)] [(kL_values, .int), (kC_kind, .int), (kC_parts, .int), (kC_partNodes, .int)] t) (va_A [(oc4 oL rL_values rL_supposed), (arI rL_values kL_values 18 fL_values), (oc1 oC iC_nodes iC_words iC_chances iC_unsures iC_slips iC_throneNode iC_saidWorth iC_unit rC_kind rC_parts rC_partNodes rC_weights rC_weightSums rC_toldWorths rC_steps rC_below rC_above rC_unsureWords rC_unsureWorths), (arI rC_kind kC_kind 18 fC_kind), (arI rC_parts kC_parts 18 fC_parts), (arI rC_partNodes kC_partNodes 72 fC_partNodes)] sz)) 0 0 (va_A [(oc4 oL rL_values rL_supposed), (arI rL_values kL_values 18 fL_values), (oc1 oC iC_nodes iC_words iC_chances iC_unsures iC_slips iC_throneNode iC_saidWorth iC_unit rC_kind rC_parts rC_partNodes rC_weights rC_weightSums rC_toldWorths rC_steps rC_below rC_above rC_unsureWords rC_unsureWorths), (arI rC_kind kC_kind 18 fC_kind), (arI rC_parts kC_parts 18 fC_parts), (arI rC_partNodes kC_partNodes 72 fC_partNodes)] sz) := by
  refine Met.ofW (cc := cX4_waysDown) (maxL := 4) (ret := (some .int)) pnX4 rfl ?_
  intro p e s m args below meth c s₁ B hml hv
  obtain ⟨rfl, hsz, hP, hK, hD0, hE⟩ := hv
  have hx := B.exec
  have hb := B.bytes
  have hr := B.returns
  have hts : ∀ w ∈ wG, w.before ([.ref oL, .ref oC] : List Value).toArray s = true := fun w h => atoms_spec (ws := Cond.code yX4_waysDown cX4_waysDown 4 (some .int) :: wG) B.pre w (List.mem_cons_of_mem _ h)
  have hown : s.vm.findClass RX4 = some m.cls := own_of B.named rfl
  have hlocks := B.notSynchronized
  subst hsz
  have hD := hD0.self (sz := s.heap.size)
  generalize hAe : va_A [(oc4 oL rL_values rL_supposed), (arI rL_values kL_values 18 fL_values), (oc1 oC iC_nodes iC_words iC_chances iC_unsures iC_slips iC_throneNode iC_saidWorth iC_unit rC_kind rC_parts rC_partNodes rC_weights rC_weightSums rC_toldWorths rC_steps rC_below rC_above rC_unsureWords rC_unsureWorths), (arI rC_kind kC_kind 18 fC_kind), (arI rC_parts kC_parts 18 fC_parts), (arI rC_partNodes kC_partNodes 72 fC_partNodes)] s.heap.size = A at hD hE ⊢
  have hA : ∀ q : Nat, s.heap.size ≤ q → A q := fun q h => by rw [← hAe]; exact Or.inr h
  have hS : va_S A s.heap s.heap [] := va_S.rf
  have hl := lv_entry ([.ref oL, .ref oC]) (n := 4) (Nat.le_of_ble_eq_true rfl)
  rw [lg_entry_eq]
  generalize (lg_sl ([.ref oL, .ref oC]) ++ List.replicate (4 - (lg_sl ([.ref oL, .ref oC])).length) Slot.unset).toArray = ls at hl ⊢
  have hl : lv_has ls 4 [(0, .ref oL), (1, .ref oC)] := hl
  refine lv_iconst (v := 0) hx hb dX4_waysDown_0 (by decide) ?_
  refine lv_istore_n (lv' := [(2, .int 0), (0, .ref oL), (1, .ref oC)]) hx hb dX4_waysDown_1 rfl hl (by decide) rfl (fun ls hl => ?_)
  have hl := lv_sub hl (l' := [(2, .int 0), (0, .ref oL), (1, .ref oC)]) [0, 1, 2] rfl
  have key_n_1035 : ∀ (n_1035 : Nat) (z_1033 : Int32) (f_1034 : Nat → Int32) (H : Heap) (locs : List Loc) (ls : Array Slot), (0 ≤ z_1033.toInt ∧ z_1033.toInt ≤ 2147483647) → (2147483647 - z_1033.toInt).toNat < n_1035 → va_P (dC, dI) vwCl [(oc4 oL rL_values rL_supposed), (arI rL_values kL_values 18 f_1034), (oc1 oC iC_nodes iC_words iC_chances iC_unsures iC_slips iC_throneNode iC_saidWorth iC_unit rC_kind rC_parts rC_partNodes rC_weights rC_weightSums rC_toldWorths rC_steps rC_below rC_above rC_unsureWords rC_unsureWorths), (arI rC_kind kC_kind 18 fC_kind), (arI rC_parts kC_parts 18 fC_parts), (arI rC_partNodes kC_partNodes 72 fC_partNodes)] H → va_D A [(oc4 oL rL_values rL_supposed), (arI rL_values kL_values 18 f_1034), (oc1 oC iC_nodes iC_words iC_chances iC_unsures iC_slips iC_throneNode iC_saidWorth iC_unit rC_kind rC_parts rC_partNodes rC_weights rC_weightSums rC_toldWorths rC_steps rC_below rC_above rC_unsureWords rC_unsureWorths), (arI rC_kind kC_kind 18 fC_kind), (arI rC_parts kC_parts 18 fC_parts), (arI rC_partNodes kC_partNodes 72 fC_partNodes)] → va_S A s.heap H locs → lv_has ls 4 [(2, .int z_1033), (0, .ref oL), (1, .ref oC)] → W p l e (headSpec (Cond.code yX4_waysDown cX4_waysDown 4 (some .int) :: wG) ({ frames := 2, cells := 0, slots := 0, locals := 42 })).room s m ([.ref oL, .ref oC] : List Value).toArray below meth c H locs 0 0 (MQ below (va_Qi (fun (r : Int32) (_ : Nat) => True ∧ True) (fun (_ : Nat) (t : State) => ∃ (nfL_values : Nat → Int32), Bw dC dI A [(oc4 oL rL_values rL_supposed), (arI rL_values kL_values 18 nfL_values), (oc1 oC iC_nodes iC_words iC_chances iC_unsures iC_slips iC_throneNode iC_saidWorth iC_unit rC_kind rC_parts rC_partNodes rC_weights rC_weightSums rC_toldWorths rC_steps rC_below rC_above rC_unsureWords rC_unsureWorths), (arI rC_kind kC_kind 18 fC_kind), (arI rC_parts kC_parts 18 fC_parts), (arI rC_partNodes kC_partNodes 72 fC_partNodes)] [(kL_values, .int), (kC_kind, .int), (kC_parts, .int), (kC_partNodes, .int)] t) A) ([.ref oL, .ref oC] : List Value).toArray s 0 0 A) (F0 m 2 ls []) := by
    intro n_1035
    induction n_1035 with
    | zero => intro z_1033 f_1034 H locs ls hi0_n_1035 hm; exact absurd hm (Nat.not_lt_zero _)
    | succ n_1035 ih_n_1035 =>
      intro z_1033 f_1034 H locs ls hi0_n_1035 hm_n_1035 hP hD hS hl
      have rg_z_1033 := fb_rng z_1033
      refine lv_iload_n hx hb dX4_waysDown_2 rfl (lv_at hl 0 rfl) ?_
      refine lv_aload_n hx hb dX4_waysDown_3 rfl (lv_at hl 2 rfl) ?_
      refine va_get (D := (dC, dI)) (ci := 1) (v := .int iC_nodes) (C := RX1) (T := TX1) (N := 19) hx hb hts inX1 hown hK hP 2 rfl rfl 0 (by decide) (hts _ wd_616) (fun _ h9 => h9) rfl dX4_waysDown_4 ?_
      have rg_iC_nodes := fb_rng iC_nodes
      refine lv_icmp_ge (tgt := 78) hx hb dX4_waysDown_7 (by decide) (fun c_1036 => ?_) (fun c_1036 => ?_)
      · skip
        have gc_1036 := ti_le c_1036 rfl rfl
        refine lv_aload_n hx hb dX4_waysDown_78 rfl (lv_at hl 1 rfl) ?_
        refine lv_aload_n hx hb dX4_waysDown_79 rfl (lv_at hl 2 rfl) ?_
        have hMs := ml_of hD [true, true, true, false, false, false] (wc := [(oc4 oL rL_values rL_supposed), (arI rL_values kL_values 18 f_1034), (oc1 oC iC_nodes iC_words iC_chances iC_unsures iC_slips iC_throneNode iC_saidWorth iC_unit rC_kind rC_parts rC_partNodes rC_weights rC_weightSums rC_toldWorths rC_steps rC_below rC_above rC_unsureWords rC_unsureWorths)]) rfl
        have hFc := va_freeM hD hS hA _ hMs
        refine va_calli (va_runV (As := [.ref oC]) (rest := []) ⟨hx, hb, hml, hown, hts⟩ (tX4_throneValue l dC dI _ oL rL_values f_1034 kL_values rL_supposed oC iC_nodes iC_words iC_chances iC_unsures iC_slips iC_throneNode iC_saidWorth iC_unit rC_kind rC_parts rC_partNodes rC_weights rC_weightSums rC_toldWorths rC_steps rC_below rC_above rC_unsureWords rC_unsureWorths b_iC_nodes b_iC_unsures b_iC_throneNode) (cwV 1 hts (wd_V wd_629 wd_630 wd_631 wd_37 (wd_c wd_632)) rfl rfl rfl dv_yX4_throneValue_1 ⟨Nat.le_of_ble_eq_true rfl, Nat.le_of_ble_eq_true rfl⟩) ⟨Pw.fb, recvX4 hK hP (q0 := 0) rfl, fun U hU hW => Pw.to (hP.ms _ hMs) (hD.ms _ hMs) (hK.ms [true, false, false, false] rfl) hE hS hFc hU hW⟩ rfl rfl hl.1 rfl (lv_room (Nat.le_of_ble_eq_true rfl)) dX4_waysDown_80 ⟨Nat.le_of_ble_eq_true rfl, Nat.le_of_ble_eq_true rfl⟩) hS (fun q _ h => hFc q h) hFc (fun r u t H locs ht hvm hw hB hz1 hk1 hS => ?_)
        obtain ⟨hP, hD⟩ := Bw.goN (ws' := [(oc4 oL rL_values rL_supposed), (arI rL_values kL_values 18 f_1034), (oc1 oC iC_nodes iC_words iC_chances iC_unsures iC_slips iC_throneNode iC_saidWorth iC_unit rC_kind rC_parts rC_partNodes rC_weights rC_weightSums rC_toldWorths rC_steps rC_below rC_above rC_unsureWords rC_unsureWorths), (arI rC_kind kC_kind 18 fC_kind), (arI rC_parts kC_parts 18 fC_parts), (arI rC_partNodes kC_partNodes 72 fC_partNodes)]) hB rfl ht hP hD _ hMs hk1 hFc rfl
        clear hz1 hk1 hvm ht hB hMs
        obtain ⟨x_1037, rfl⟩ : ∃ z, z = r := ⟨_, rfl⟩
        have rg_x_1037 := fb_rng x_1037
        exact wq_i hx hb hr 0 ⟨trivial, trivial⟩ (fun t ht hW => ⟨f_1034, Bw.to hP hD hK ht hW⟩) hS dX4_waysDown_83 hlocks
      · skip
        have gc_1036 := ti_nle c_1036 rfl rfl
        refine lv_aload_n hx hb dX4_waysDown_10 rfl (lv_at hl 1 rfl) ?_
        refine va_get (D := (dC, dI)) (ci := 4) (v := .ref rL_values) (C := RX4) (T := TX4) (N := 2) hx hb hts inX4 hown hK hP 0 rfl rfl 0 (by decide) (hts _ wd_146) (fun _ h9 => h9) rfl dX4_waysDown_11 ?_
        refine lv_iload_n hx hb dX4_waysDown_14 rfl (lv_at hl 0 rfl) ?_
        refine lv_aload_n hx hb dX4_waysDown_15 rfl (lv_at hl 2 rfl) ?_
        refine va_get (D := (dC, dI)) (ci := 1) (v := .ref rC_kind) (C := RX1) (T := TX1) (N := 19) hx hb hts inX1 hown hK hP 2 rfl rfl 8 (by decide) (hts _ wd_617) (fun _ h9 => h9) rfl dX4_waysDown_16 ?_
        refine lv_iload_n hx hb dX4_waysDown_19 rfl (lv_at hl 0 rfl) ?_
        refine va_iald hx hb hK hP 3 1 rfl rfl (ti_in rfl hi0_n_1035.1 (om_97cd4a7c b_iC_nodes.2 gc_1036)) dX4_waysDown_20 ?_
        refine lv_topi (fun x_1038 ex_1038 => ?_)
        have rg_x_1038 := fb_rng x_1038
        have kx_1038 : (fC_kind z_1033.toNatClampNeg).toInt = x_1038.toInt := by rw [ex_1038]
        refine lv_if_ne (tgt := 28) hx hb dX4_waysDown_21 (by decide) (fun c_1039 => ?_) (fun c_1039 => ?_)
        · skip
          have gc_1039 := ti_ne c_1039 rfl kc_0
          refine lv_iconst (v := 0) hx hb dX4_waysDown_28 (by decide) ?_
          refine vz_iast hx hb hK hP hD hS 1 0 rfl rfl (ti_in rfl hi0_n_1035.1 (om_97cd4a7c b_iC_nodes.2 gc_1036)) dX4_waysDown_29 (fun H locs f_1040 hP hD hS => ?_)
          obtain ⟨hP, hD⟩ := wl2 (ws' := [(oc4 oL rL_values rL_supposed), (arI rL_values kL_values 18 f_1040), (oc1 oC iC_nodes iC_words iC_chances iC_unsures iC_slips iC_throneNode iC_saidWorth iC_unit rC_kind rC_parts rC_partNodes rC_weights rC_weightSums rC_toldWorths rC_steps rC_below rC_above rC_unsureWords rC_unsureWorths), (arI rC_kind kC_kind 18 fC_kind), (arI rC_parts kC_parts 18 fC_parts), (arI rC_partNodes kC_partNodes 72 fC_partNodes)]) hP hD rfl
          refine lv_iconst (v := 0) hx hb dX4_waysDown_30 (by decide) ?_
          refine lv_istore_n (lv' := [(3, .int 0), (2, .int z_1033), (0, .ref oL), (1, .ref oC)]) hx hb dX4_waysDown_31 rfl hl (by decide) rfl (fun ls hl => ?_)
          have hl := lv_sub hl (l' := [(3, .int 0), (2, .int z_1033), (0, .ref oL), (1, .ref oC)]) [0, 1, 2, 3] rfl
          have key_n_1043 : ∀ (n_1043 : Nat) (z_1041 : Int32) (f_1042 : Nat → Int32) (H : Heap) (locs : List Loc) (ls : Array Slot), (0 ≤ z_1041.toInt ∧ z_1041.toInt ≤ 2147483647) → (2147483647 - z_1041.toInt).toNat < n_1043 → va_P (dC, dI) vwCl [(oc4 oL rL_values rL_supposed), (arI rL_values kL_values 18 f_1042), (oc1 oC iC_nodes iC_words iC_chances iC_unsures iC_slips iC_throneNode iC_saidWorth iC_unit rC_kind rC_parts rC_partNodes rC_weights rC_weightSums rC_toldWorths rC_steps rC_below rC_above rC_unsureWords rC_unsureWorths), (arI rC_kind kC_kind 18 fC_kind), (arI rC_parts kC_parts 18 fC_parts), (arI rC_partNodes kC_partNodes 72 fC_partNodes)] H → va_D A [(oc4 oL rL_values rL_supposed), (arI rL_values kL_values 18 f_1042), (oc1 oC iC_nodes iC_words iC_chances iC_unsures iC_slips iC_throneNode iC_saidWorth iC_unit rC_kind rC_parts rC_partNodes rC_weights rC_weightSums rC_toldWorths rC_steps rC_below rC_above rC_unsureWords rC_unsureWorths), (arI rC_kind kC_kind 18 fC_kind), (arI rC_parts kC_parts 18 fC_parts), (arI rC_partNodes kC_partNodes 72 fC_partNodes)] → va_S A s.heap H locs → lv_has ls 4 [(3, .int z_1041), (2, .int z_1033), (0, .ref oL), (1, .ref oC)] → W p l e (headSpec (Cond.code yX4_waysDown cX4_waysDown 4 (some .int) :: wG) ({ frames := 2, cells := 0, slots := 0, locals := 42 })).room s m ([.ref oL, .ref oC] : List Value).toArray below meth c H locs 0 0 (MQ below (va_Qi (fun (r : Int32) (_ : Nat) => True ∧ True) (fun (_ : Nat) (t : State) => ∃ (nfL_values : Nat → Int32), Bw dC dI A [(oc4 oL rL_values rL_supposed), (arI rL_values kL_values 18 nfL_values), (oc1 oC iC_nodes iC_words iC_chances iC_unsures iC_slips iC_throneNode iC_saidWorth iC_unit rC_kind rC_parts rC_partNodes rC_weights rC_weightSums rC_toldWorths rC_steps rC_below rC_above rC_unsureWords rC_unsureWorths), (arI rC_kind kC_kind 18 fC_kind), (arI rC_parts kC_parts 18 fC_parts), (arI rC_partNodes kC_partNodes 72 fC_partNodes)] [(kL_values, .int), (kC_kind, .int), (kC_parts, .int), (kC_partNodes, .int)] t) A) ([.ref oL, .ref oC] : List Value).toArray s 0 0 A) (F0 m 32 ls []) := by
            intro n_1043
            induction n_1043 with
            | zero => intro z_1041 f_1042 H locs ls hi0_n_1043 hm; exact absurd hm (Nat.not_lt_zero _)
            | succ n_1043 ih_n_1043 =>
              intro z_1041 f_1042 H locs ls hi0_n_1043 hm_n_1043 hP hD hS hl
              have rg_z_1041 := fb_rng z_1041
              refine lv_iload_n hx hb dX4_waysDown_32 rfl (lv_at hl 0 rfl) ?_
              refine lv_aload_n hx hb dX4_waysDown_33 rfl (lv_at hl 3 rfl) ?_
              refine va_get (D := (dC, dI)) (ci := 1) (v := .ref rC_parts) (C := RX1) (T := TX1) (N := 19) hx hb hts inX1 hown hK hP 2 rfl rfl 9 (by decide) (hts _ wd_623) (fun _ h9 => h9) rfl dX4_waysDown_34 ?_
              refine lv_iload_n hx hb dX4_waysDown_37 rfl (lv_at hl 1 rfl) ?_
              refine va_iald hx hb hK hP 4 2 rfl rfl (ti_in rfl hi0_n_1035.1 (om_97cd4a7c b_iC_nodes.2 gc_1036)) dX4_waysDown_38 ?_
              refine lv_topi (fun x_1044 ex_1044 => ?_)
              have rg_x_1044 := fb_rng x_1044
              have kx_1044 : (fC_parts z_1033.toNatClampNeg).toInt = x_1044.toInt := by rw [ex_1044]
              have ux_1044 := a_fC_parts z_1033.toNatClampNeg (cl_lt rfl hi0_n_1035.1 (om_97cd4a7c b_iC_nodes.2 gc_1036))
              rw [show fC_parts z_1033.toNatClampNeg = x_1044 from ex_1044.symm] at ux_1044
              refine lv_icmp_ge (tgt := 72) hx hb dX4_waysDown_39 (by decide) (fun c_1045 => ?_) (fun c_1045 => ?_)
              · skip
                have gc_1045 := ti_le c_1045 rfl rfl
                obtain ⟨x_1046, ex_1046⟩ : ∃ z : Int32, z = z_1033 + Int32.ofInt 1 := ⟨_, rfl⟩
                have vx_1046 : x_1046.toInt = z_1033.toInt + 1 := ti_add (y := 1) ex_1046 rfl kc_1 (om_4e4fce7e hi0_n_1035.1) (om_a32d6481 b_iC_nodes.2 gc_1036)
                refine lv_iinc (v := x_1046) (lv' := [(2, .int x_1046), (3, .int z_1041), (0, .ref oL), (1, .ref oC)]) hx hb dX4_waysDown_72 hl (k := 1) rfl ex_1046.symm (by decide) rfl (fun ls hl => ?_)
                refine lv_goto (tgt := 2) hx hb dX4_waysDown_75 (by decide) ?_
                exact ih_n_1035 x_1046 f_1042 _ _ _  ⟨(om_83b90de5 hi0_n_1035.1 vx_1046), (om_ed8867da b_iC_nodes.2 gc_1036 vx_1046)⟩ (ms_lt hm_n_1035 (om_b9393183 vx_1046) (om_1d9fa7fb b_iC_nodes.2 gc_1036)) hP hD hS (lv_sub hl [0, 2, 3] rfl)
              · skip
                have gc_1045 := ti_nle c_1045 rfl rfl
                refine lv_aload_n hx hb dX4_waysDown_42 rfl (lv_at hl 2 rfl) ?_
                refine va_get (D := (dC, dI)) (ci := 4) (v := .ref rL_values) (C := RX4) (T := TX4) (N := 2) hx hb hts inX4 hown hK hP 0 rfl rfl 0 (by decide) (hts _ wd_146) (fun _ h9 => h9) rfl dX4_waysDown_43 ?_
                refine lv_iload_n hx hb dX4_waysDown_46 rfl (lv_at hl 1 rfl) ?_
                refine lv_dup2_11 hx hb dX4_waysDown_47 rfl rfl ?_
                refine va_iald hx hb hK hP 1 0 rfl rfl (ti_in rfl hi0_n_1035.1 (om_97cd4a7c b_iC_nodes.2 gc_1036)) dX4_waysDown_48 ?_
                refine lv_topi (fun x_1047 ex_1047 => ?_)
                have rg_x_1047 := fb_rng x_1047
                have kx_1047 : (f_1042 z_1033.toNatClampNeg).toInt = x_1047.toInt := by rw [ex_1047]
                refine lv_aload_n hx hb dX4_waysDown_49 rfl (lv_at hl 2 rfl) ?_
                refine va_get (D := (dC, dI)) (ci := 4) (v := .ref rL_values) (C := RX4) (T := TX4) (N := 2) hx hb hts inX4 hown hK hP 0 rfl rfl 0 (by decide) (hts _ wd_146) (fun _ h9 => h9) rfl dX4_waysDown_50 ?_
                refine lv_aload_n hx hb dX4_waysDown_53 rfl (lv_at hl 3 rfl) ?_
                refine va_get (D := (dC, dI)) (ci := 1) (v := .ref rC_partNodes) (C := RX1) (T := TX1) (N := 19) hx hb hts inX1 hown hK hP 2 rfl rfl 10 (by decide) (hts _ wd_624) (fun _ h9 => h9) rfl dX4_waysDown_54 ?_
                refine lv_iload_n hx hb dX4_waysDown_57 rfl (lv_at hl 1 rfl) ?_
                refine lv_iconst (v := 4) hx hb dX4_waysDown_58 (by decide) ?_
                refine lv_imul hx hb dX4_waysDown_59 ?_
                refine lv_topi (fun x_1048 ex_1048 => ?_)
                have vx_1048 : x_1048.toInt = 4 * z_1033.toInt := by have q := ti_mul ex_1048 rfl kc_4 (by omega) (by omega); omega
                refine lv_iload_n hx hb dX4_waysDown_60 rfl (lv_at hl 0 rfl) ?_
                refine lv_iadd hx hb dX4_waysDown_61 ?_
                refine lv_topi (fun x_1049 ex_1049 => ?_)
                have vx_1049 : x_1049.toInt = 4 * z_1033.toInt + z_1041.toInt := om_5d0caf0f (ti_add ex_1049 vx_1048 rfl (om_056a216f hi0_n_1035.1 hi0_n_1043.1) (om_ba7cfd31 b_iC_nodes.2 gc_1036 ux_1044.2 gc_1045))
                refine va_iald hx hb hK hP 5 3 rfl rfl (ti_in vx_1049 (om_fc2812d4 hi0_n_1035.1 hi0_n_1043.1) (om_e20cec48 b_iC_nodes.2 gc_1036 ux_1044.2 gc_1045)) dX4_waysDown_62 ?_
                refine lv_topi (fun x_1050 ex_1050 => ?_)
                have rg_x_1050 := fb_rng x_1050
                have kx_1050 : (fC_partNodes x_1049.toNatClampNeg).toInt = x_1050.toInt := by rw [ex_1050]
                have ux_1050 := a_fC_partNodes x_1049.toNatClampNeg (cl_lt vx_1049 (om_fc2812d4 hi0_n_1035.1 hi0_n_1043.1) (om_e20cec48 b_iC_nodes.2 gc_1036 ux_1044.2 gc_1045))
                rw [show fC_partNodes x_1049.toNatClampNeg = x_1050 from ex_1050.symm] at ux_1050
                refine va_iald hx hb hK hP 1 0 rfl rfl (ti_in rfl ux_1050.1 (om_b3735a34 ux_1050.2)) dX4_waysDown_63 ?_
                refine lv_topi (fun x_1051 ex_1051 => ?_)
                have rg_x_1051 := fb_rng x_1051
                have kx_1051 : (f_1042 x_1050.toNatClampNeg).toInt = x_1051.toInt := by rw [ex_1051]
                refine lv_iadd hx hb dX4_waysDown_64 ?_
                refine lv_topi (fun x_1052 ex_1052 => ?_)
                have rg_x_1052 := fb_rng x_1052
                refine vz_iast hx hb hK hP hD hS 1 0 rfl rfl (ti_in rfl hi0_n_1035.1 (om_97cd4a7c b_iC_nodes.2 gc_1036)) dX4_waysDown_65 (fun H locs f_1053 hP hD hS => ?_)
                obtain ⟨hP, hD⟩ := wl2 (ws' := [(oc4 oL rL_values rL_supposed), (arI rL_values kL_values 18 f_1053), (oc1 oC iC_nodes iC_words iC_chances iC_unsures iC_slips iC_throneNode iC_saidWorth iC_unit rC_kind rC_parts rC_partNodes rC_weights rC_weightSums rC_toldWorths rC_steps rC_below rC_above rC_unsureWords rC_unsureWorths), (arI rC_kind kC_kind 18 fC_kind), (arI rC_parts kC_parts 18 fC_parts), (arI rC_partNodes kC_partNodes 72 fC_partNodes)]) hP hD rfl
                obtain ⟨x_1054, ex_1054⟩ : ∃ z : Int32, z = z_1041 + Int32.ofInt 1 := ⟨_, rfl⟩
                have vx_1054 : x_1054.toInt = z_1041.toInt + 1 := ti_add (y := 1) ex_1054 rfl kc_1 (om_4e4fce7e hi0_n_1043.1) (om_0ca29412 ux_1044.2 gc_1045)
                refine lv_iinc (v := x_1054) (lv' := [(3, .int x_1054), (2, .int z_1033), (0, .ref oL), (1, .ref oC)]) hx hb dX4_waysDown_66 hl (k := 0) rfl ex_1054.symm (by decide) rfl (fun ls hl => ?_)
                refine lv_goto (tgt := 32) hx hb dX4_waysDown_69 (by decide) ?_
                exact ih_n_1043 x_1054 f_1053 _ _ _  ⟨(om_83b90de5 hi0_n_1043.1 vx_1054), (om_008057e4 ux_1044.2 gc_1045 vx_1054)⟩ (ms_lt hm_n_1043 (om_b9393183 vx_1054) (om_349eab4e ux_1044.2 gc_1045)) hP hD hS (lv_sub hl [0, 1, 2, 3] rfl)
          exact key_n_1043 (((2147483647 - (0 : Int32).toInt).toNat) + 1) 0 f_1040 _ _ _  ⟨(om_b1de7dbe kc_0), (om_daf17c64 kc_0)⟩ (Nat.lt_add_one _) hP hD hS hl
        · skip
          have gc_1039 := ti_eq c_1039 rfl kc_0
          refine lv_iconst (v := 1) hx hb dX4_waysDown_24 (by decide) ?_
          refine lv_goto (tgt := 29) hx hb dX4_waysDown_25 (by decide) ?_
          refine vz_iast hx hb hK hP hD hS 1 0 rfl rfl (ti_in rfl hi0_n_1035.1 (om_97cd4a7c b_iC_nodes.2 gc_1036)) dX4_waysDown_29 (fun H locs f_1055 hP hD hS => ?_)
          obtain ⟨hP, hD⟩ := wl2 (ws' := [(oc4 oL rL_values rL_supposed), (arI rL_values kL_values 18 f_1055), (oc1 oC iC_nodes iC_words iC_chances iC_unsures iC_slips iC_throneNode iC_saidWorth iC_unit rC_kind rC_parts rC_partNodes rC_weights rC_weightSums rC_toldWorths rC_steps rC_below rC_above rC_unsureWords rC_unsureWorths), (arI rC_kind kC_kind 18 fC_kind), (arI rC_parts kC_parts 18 fC_parts), (arI rC_partNodes kC_partNodes 72 fC_partNodes)]) hP hD rfl
          refine lv_iconst (v := 0) hx hb dX4_waysDown_30 (by decide) ?_
          refine lv_istore_n (lv' := [(3, .int 0), (2, .int z_1033), (0, .ref oL), (1, .ref oC)]) hx hb dX4_waysDown_31 rfl hl (by decide) rfl (fun ls hl => ?_)
          have hl := lv_sub hl (l' := [(3, .int 0), (2, .int z_1033), (0, .ref oL), (1, .ref oC)]) [0, 1, 2, 3] rfl
          have key_n_1058 : ∀ (n_1058 : Nat) (z_1056 : Int32) (f_1057 : Nat → Int32) (H : Heap) (locs : List Loc) (ls : Array Slot), (0 ≤ z_1056.toInt ∧ z_1056.toInt ≤ 2147483647) → (2147483647 - z_1056.toInt).toNat < n_1058 → va_P (dC, dI) vwCl [(oc4 oL rL_values rL_supposed), (arI rL_values kL_values 18 f_1057), (oc1 oC iC_nodes iC_words iC_chances iC_unsures iC_slips iC_throneNode iC_saidWorth iC_unit rC_kind rC_parts rC_partNodes rC_weights rC_weightSums rC_toldWorths rC_steps rC_below rC_above rC_unsureWords rC_unsureWorths), (arI rC_kind kC_kind 18 fC_kind), (arI rC_parts kC_parts 18 fC_parts), (arI rC_partNodes kC_partNodes 72 fC_partNodes)] H → va_D A [(oc4 oL rL_values rL_supposed), (arI rL_values kL_values 18 f_1057), (oc1 oC iC_nodes iC_words iC_chances iC_unsures iC_slips iC_throneNode iC_saidWorth iC_unit rC_kind rC_parts rC_partNodes rC_weights rC_weightSums rC_toldWorths rC_steps rC_below rC_above rC_unsureWords rC_unsureWorths), (arI rC_kind kC_kind 18 fC_kind), (arI rC_parts kC_parts 18 fC_parts), (arI rC_partNodes kC_partNodes 72 fC_partNodes)] → va_S A s.heap H locs → lv_has ls 4 [(3, .int z_1056), (2, .int z_1033), (0, .ref oL), (1, .ref oC)] → W p l e (headSpec (Cond.code yX4_waysDown cX4_waysDown 4 (some .int) :: wG) ({ frames := 2, cells := 0, slots := 0, locals := 42 })).room s m ([.ref oL, .ref oC] : List Value).toArray below meth c H locs 0 0 (MQ below (va_Qi (fun (r : Int32) (_ : Nat) => True ∧ True) (fun (_ : Nat) (t : State) => ∃ (nfL_values : Nat → Int32), Bw dC dI A [(oc4 oL rL_values rL_supposed), (arI rL_values kL_values 18 nfL_values), (oc1 oC iC_nodes iC_words iC_chances iC_unsures iC_slips iC_throneNode iC_saidWorth iC_unit rC_kind rC_parts rC_partNodes rC_weights rC_weightSums rC_toldWorths rC_steps rC_below rC_above rC_unsureWords rC_unsureWorths), (arI rC_kind kC_kind 18 fC_kind), (arI rC_parts kC_parts 18 fC_parts), (arI rC_partNodes kC_partNodes 72 fC_partNodes)] [(kL_values, .int), (kC_kind, .int), (kC_parts, .int), (kC_partNodes, .int)] t) A) ([.ref oL, .ref oC] : List Value).toArray s 0 0 A) (F0 m 32 ls []) := by
            intro n_1058
            induction n_1058 with
            | zero => intro z_1056 f_1057 H locs ls hi0_n_1058 hm; exact absurd hm (Nat.not_lt_zero _)
            | succ n_1058 ih_n_1058 =>
              intro z_1056 f_1057 H locs ls hi0_n_1058 hm_n_1058 hP hD hS hl
              have rg_z_1056 := fb_rng z_1056
              refine lv_iload_n hx hb dX4_waysDown_32 rfl (lv_at hl 0 rfl) ?_
              refine lv_aload_n hx hb dX4_waysDown_33 rfl (lv_at hl 3 rfl) ?_
              refine va_get (D := (dC, dI)) (ci := 1) (v := .ref rC_parts) (C := RX1) (T := TX1) (N := 19) hx hb hts inX1 hown hK hP 2 rfl rfl 9 (by decide) (hts _ wd_623) (fun _ h9 => h9) rfl dX4_waysDown_34 ?_
              refine lv_iload_n hx hb dX4_waysDown_37 rfl (lv_at hl 1 rfl) ?_
              refine va_iald hx hb hK hP 4 2 rfl rfl (ti_in rfl hi0_n_1035.1 (om_97cd4a7c b_iC_nodes.2 gc_1036)) dX4_waysDown_38 ?_
              refine lv_topi (fun x_1059 ex_1059 => ?_)
              have rg_x_1059 := fb_rng x_1059
              have kx_1059 : (fC_parts z_1033.toNatClampNeg).toInt = x_1059.toInt := by rw [ex_1059]
              have ux_1059 := a_fC_parts z_1033.toNatClampNeg (cl_lt rfl hi0_n_1035.1 (om_97cd4a7c b_iC_nodes.2 gc_1036))
              rw [show fC_parts z_1033.toNatClampNeg = x_1059 from ex_1059.symm] at ux_1059
              refine lv_icmp_ge (tgt := 72) hx hb dX4_waysDown_39 (by decide) (fun c_1060 => ?_) (fun c_1060 => ?_)
              · skip
                have gc_1060 := ti_le c_1060 rfl rfl
                obtain ⟨x_1061, ex_1061⟩ : ∃ z : Int32, z = z_1033 + Int32.ofInt 1 := ⟨_, rfl⟩
                have vx_1061 : x_1061.toInt = z_1033.toInt + 1 := ti_add (y := 1) ex_1061 rfl kc_1 (om_4e4fce7e hi0_n_1035.1) (om_a32d6481 b_iC_nodes.2 gc_1036)
                refine lv_iinc (v := x_1061) (lv' := [(2, .int x_1061), (3, .int z_1056), (0, .ref oL), (1, .ref oC)]) hx hb dX4_waysDown_72 hl (k := 1) rfl ex_1061.symm (by decide) rfl (fun ls hl => ?_)
                refine lv_goto (tgt := 2) hx hb dX4_waysDown_75 (by decide) ?_
                exact ih_n_1035 x_1061 f_1057 _ _ _  ⟨(om_83b90de5 hi0_n_1035.1 vx_1061), (om_ed8867da b_iC_nodes.2 gc_1036 vx_1061)⟩ (ms_lt hm_n_1035 (om_b9393183 vx_1061) (om_1d9fa7fb b_iC_nodes.2 gc_1036)) hP hD hS (lv_sub hl [0, 2, 3] rfl)
              · skip
                have gc_1060 := ti_nle c_1060 rfl rfl
                refine lv_aload_n hx hb dX4_waysDown_42 rfl (lv_at hl 2 rfl) ?_
                refine va_get (D := (dC, dI)) (ci := 4) (v := .ref rL_values) (C := RX4) (T := TX4) (N := 2) hx hb hts inX4 hown hK hP 0 rfl rfl 0 (by decide) (hts _ wd_146) (fun _ h9 => h9) rfl dX4_waysDown_43 ?_
                refine lv_iload_n hx hb dX4_waysDown_46 rfl (lv_at hl 1 rfl) ?_
                refine lv_dup2_11 hx hb dX4_waysDown_47 rfl rfl ?_
                refine va_iald hx hb hK hP 1 0 rfl rfl (ti_in rfl hi0_n_1035.1 (om_97cd4a7c b_iC_nodes.2 gc_1036)) dX4_waysDown_48 ?_
                refine lv_topi (fun x_1062 ex_1062 => ?_)
                have rg_x_1062 := fb_rng x_1062
                have kx_1062 : (f_1057 z_1033.toNatClampNeg).toInt = x_1062.toInt := by rw [ex_1062]
                refine lv_aload_n hx hb dX4_waysDown_49 rfl (lv_at hl 2 rfl) ?_
                refine va_get (D := (dC, dI)) (ci := 4) (v := .ref rL_values) (C := RX4) (T := TX4) (N := 2) hx hb hts inX4 hown hK hP 0 rfl rfl 0 (by decide) (hts _ wd_146) (fun _ h9 => h9) rfl dX4_waysDown_50 ?_
                refine lv_aload_n hx hb dX4_waysDown_53 rfl (lv_at hl 3 rfl) ?_
                refine va_get (D := (dC, dI)) (ci := 1) (v := .ref rC_partNodes) (C := RX1) (T := TX1) (N := 19) hx hb hts inX1 hown hK hP 2 rfl rfl 10 (by decide) (hts _ wd_624) (fun _ h9 => h9) rfl dX4_waysDown_54 ?_
                refine lv_iload_n hx hb dX4_waysDown_57 rfl (lv_at hl 1 rfl) ?_
                refine lv_iconst (v := 4) hx hb dX4_waysDown_58 (by decide) ?_
                refine lv_imul hx hb dX4_waysDown_59 ?_
                refine lv_topi (fun x_1063 ex_1063 => ?_)
                have vx_1063 : x_1063.toInt = 4 * z_1033.toInt := by have q := ti_mul ex_1063 rfl kc_4 (by omega) (by omega); omega
                refine lv_iload_n hx hb dX4_waysDown_60 rfl (lv_at hl 0 rfl) ?_
                refine lv_iadd hx hb dX4_waysDown_61 ?_
                refine lv_topi (fun x_1064 ex_1064 => ?_)
                have vx_1064 : x_1064.toInt = 4 * z_1033.toInt + z_1056.toInt := om_5d0caf0f (ti_add ex_1064 vx_1063 rfl (om_056a216f hi0_n_1035.1 hi0_n_1058.1) (om_ba7cfd31 b_iC_nodes.2 gc_1036 ux_1059.2 gc_1060))
                refine va_iald hx hb hK hP 5 3 rfl rfl (ti_in vx_1064 (om_fc2812d4 hi0_n_1035.1 hi0_n_1058.1) (om_e20cec48 b_iC_nodes.2 gc_1036 ux_1059.2 gc_1060)) dX4_waysDown_62 ?_
                refine lv_topi (fun x_1065 ex_1065 => ?_)
                have rg_x_1065 := fb_rng x_1065
                have kx_1065 : (fC_partNodes x_1064.toNatClampNeg).toInt = x_1065.toInt := by rw [ex_1065]
                have ux_1065 := a_fC_partNodes x_1064.toNatClampNeg (cl_lt vx_1064 (om_fc2812d4 hi0_n_1035.1 hi0_n_1058.1) (om_e20cec48 b_iC_nodes.2 gc_1036 ux_1059.2 gc_1060))
                rw [show fC_partNodes x_1064.toNatClampNeg = x_1065 from ex_1065.symm] at ux_1065
                refine va_iald hx hb hK hP 1 0 rfl rfl (ti_in rfl ux_1065.1 (om_b3735a34 ux_1065.2)) dX4_waysDown_63 ?_
                refine lv_topi (fun x_1066 ex_1066 => ?_)
                have rg_x_1066 := fb_rng x_1066
                have kx_1066 : (f_1057 x_1065.toNatClampNeg).toInt = x_1066.toInt := by rw [ex_1066]
                refine lv_iadd hx hb dX4_waysDown_64 ?_
                refine lv_topi (fun x_1067 ex_1067 => ?_)
                have rg_x_1067 := fb_rng x_1067
                refine vz_iast hx hb hK hP hD hS 1 0 rfl rfl (ti_in rfl hi0_n_1035.1 (om_97cd4a7c b_iC_nodes.2 gc_1036)) dX4_waysDown_65 (fun H locs f_1068 hP hD hS => ?_)
                obtain ⟨hP, hD⟩ := wl2 (ws' := [(oc4 oL rL_values rL_supposed), (arI rL_values kL_values 18 f_1068), (oc1 oC iC_nodes iC_words iC_chances iC_unsures iC_slips iC_throneNode iC_saidWorth iC_unit rC_kind rC_parts rC_partNodes rC_weights rC_weightSums rC_toldWorths rC_steps rC_below rC_above rC_unsureWords rC_unsureWorths), (arI rC_kind kC_kind 18 fC_kind), (arI rC_parts kC_parts 18 fC_parts), (arI rC_partNodes kC_partNodes 72 fC_partNodes)]) hP hD rfl
                obtain ⟨x_1069, ex_1069⟩ : ∃ z : Int32, z = z_1056 + Int32.ofInt 1 := ⟨_, rfl⟩
                have vx_1069 : x_1069.toInt = z_1056.toInt + 1 := ti_add (y := 1) ex_1069 rfl kc_1 (om_4e4fce7e hi0_n_1058.1) (om_0ca29412 ux_1059.2 gc_1060)
                refine lv_iinc (v := x_1069) (lv' := [(3, .int x_1069), (2, .int z_1033), (0, .ref oL), (1, .ref oC)]) hx hb dX4_waysDown_66 hl (k := 0) rfl ex_1069.symm (by decide) rfl (fun ls hl => ?_)
                refine lv_goto (tgt := 32) hx hb dX4_waysDown_69 (by decide) ?_
                exact ih_n_1058 x_1069 f_1068 _ _ _  ⟨(om_83b90de5 hi0_n_1058.1 vx_1069), (om_008057e4 ux_1059.2 gc_1060 vx_1069)⟩ (ms_lt hm_n_1058 (om_b9393183 vx_1069) (om_349eab4e ux_1059.2 gc_1060)) hP hD hS (lv_sub hl [0, 1, 2, 3] rfl)
          exact key_n_1058 (((2147483647 - (0 : Int32).toInt).toNat) + 1) 0 f_1055 _ _ _  ⟨(om_b1de7dbe kc_0), (om_daf17c64 kc_0)⟩ (Nat.lt_add_one _) hP hD hS hl
  exact key_n_1035 (((2147483647 - (0 : Int32).toInt).toNat) + 1) 0 fL_values _ _ _  ⟨(om_b1de7dbe kc_0), (om_daf17c64 kc_0)⟩ (Nat.lt_add_one _) hP hD hS hl
set_option maxHeartbeats 4000000 in
set_option maxRecDepth 100000 in
theorem tX4_weighNightNone (l : Launch) (dC : Nat → ClassId) (dI : Nat → Nat → Nat) (sz : Nat) (oL : Nat) (rL_values : Nat) (fL_values : Nat → Int32) (kL_values : ClassId) (rL_supposed : Nat) (oC : Nat) (iC_nodes : Int32) (iC_words : Int32) (iC_chances : Int32) (iC_unsures : Int32) (iC_slips : Int32) (iC_throneNode : Int32) (iC_saidWorth : Int32) (iC_unit : Int32) (rC_kind : Nat) (fC_kind : Nat → Int32) (kC_kind : ClassId) (rC_parts : Nat) (rC_partNodes : Nat) (rC_weights : Nat) (rC_weightSums : Nat) (rC_toldWorths : Nat) (rC_steps : Nat) (rC_below : Nat) (rC_above : Nat) (rC_unsureWords : Nat) (rC_unsureWorths : Nat) (rW : Nat) (fW : Nat → Int32) (kW : ClassId) (b_iC_nodes : 0 ≤ iC_nodes.toInt ∧ iC_nodes.toInt ≤ 18) (b_iC_unsures : 0 ≤ iC_unsures.toInt ∧ iC_unsures.toInt ≤ 4) (b_iC_throneNode : (-1) ≤ iC_throneNode.toInt ∧ iC_throneNode.toInt ≤ 17)  : Met l yX4_weighNightNone (Cond.code yX4_weighNightNone cX4_weighNightNone 4 none :: wG) ({ frames := 0, cells := 0, slots := 0, locals := 0 }) (va_Pc [.ref oL, .ref oC, .ref rW] (Pw dC dI sz [(oc4 oL rL_values rL_supposed), (arI rL_values kL_values 18 fL_values), (oc1 oC iC_nodes iC_words iC_chances iC_unsures iC_slips iC_throneNode iC_saidWorth iC_unit rC_kind rC_parts rC_partNodes rC_weights rC_weightSums rC_toldWorths rC_steps rC_below rC_above rC_unsureWords rC_unsureWorths), (arI rC_kind kC_kind 18 fC_kind), (arI rW kW 18 fW)] [(kL_values, .int), (kC_kind, .int), (kW, .int)])) (va_Qv (fun (_ : Nat) => True) (fun (_ : Nat) (t : State) => ∃ (nfL_values : Nat → Int32), Bw dC dI (va_A [(oc4 oL rL_values rL_supposed), (arI rL_values kL_values 18 fL_values), (oc1 oC iC_nodes iC_words iC_chances iC_unsures iC_slips iC_throneNode iC_saidWorth iC_unit rC_kind rC_parts rC_partNodes rC_weights rC_weightSums rC_toldWorths rC_steps rC_below rC_above rC_unsureWords rC_unsureWorths), (arI rC_kind kC_kind 18 fC_kind), (arI rW kW 18 fW)] sz) [(oc4 oL rL_values rL_supposed), (arI rL_values kL_values 18 nfL_values), (oc1 oC iC_nodes iC_words iC_chances iC_unsures iC_slips iC_throneNode iC_saidWorth iC_unit rC_kind rC_parts rC_partNodes rC_weights rC_weightSums rC_toldWorths rC_steps rC_below rC_above rC_unsureWords rC_unsureWorths), (arI rC_kind kC_kind 18 fC_kind), (arI rW kW 18 fW)] [(kL_values, .int), (kC_kind, .int), (kW, .int)] t) (va_A [(oc4 oL rL_values rL_supposed), (arI rL_values kL_values 18 fL_values), (oc1 oC iC_nodes iC_words iC_chances iC_unsures iC_slips iC_throneNode iC_saidWorth iC_unit rC_kind rC_parts rC_partNodes rC_weights rC_weightSums rC_toldWorths rC_steps rC_below rC_above rC_unsureWords rC_unsureWorths), (arI rC_kind kC_kind 18 fC_kind), (arI rW kW 18 fW)] sz)) 0 0 (va_A [(oc4 oL rL_values rL_supposed), (arI rL_values kL_values 18 fL_values), (oc1 oC iC_nodes iC_words iC_chances iC_unsures iC_slips iC_throneNode iC_saidWorth iC_unit rC_kind rC_parts rC_partNodes rC_weights rC_weightSums rC_toldWorths rC_steps rC_below rC_above rC_unsureWords rC_unsureWorths), (arI rC_kind kC_kind 18 fC_kind), (arI rW kW 18 fW)] sz) := by
  refine Met.ofW (cc := cX4_weighNightNone) (maxL := 4) (ret := none) pnX4 rfl ?_
  intro p e s m args below meth c s₁ B hml hv
  obtain ⟨rfl, hsz, hP, hK, hD0, hE⟩ := hv
  have hx := B.exec
  have hb := B.bytes
  have hr := B.returns
  have hts : ∀ w ∈ wG, w.before ([.ref oL, .ref oC, .ref rW] : List Value).toArray s = true := fun w h => atoms_spec (ws := Cond.code yX4_weighNightNone cX4_weighNightNone 4 none :: wG) B.pre w (List.mem_cons_of_mem _ h)
  have hown : s.vm.findClass RX4 = some m.cls := own_of B.named rfl
  have hlocks := B.notSynchronized
  subst hsz
  have hD := hD0.self (sz := s.heap.size)
  generalize hAe : va_A [(oc4 oL rL_values rL_supposed), (arI rL_values kL_values 18 fL_values), (oc1 oC iC_nodes iC_words iC_chances iC_unsures iC_slips iC_throneNode iC_saidWorth iC_unit rC_kind rC_parts rC_partNodes rC_weights rC_weightSums rC_toldWorths rC_steps rC_below rC_above rC_unsureWords rC_unsureWorths), (arI rC_kind kC_kind 18 fC_kind), (arI rW kW 18 fW)] s.heap.size = A at hD hE ⊢
  have hA : ∀ q : Nat, s.heap.size ≤ q → A q := fun q h => by rw [← hAe]; exact Or.inr h
  have hS : va_S A s.heap s.heap [] := va_S.rf
  have hl := lv_entry ([.ref oL, .ref oC, .ref rW]) (n := 4) (Nat.le_of_ble_eq_true rfl)
  rw [lg_entry_eq]
  generalize (lg_sl ([.ref oL, .ref oC, .ref rW]) ++ List.replicate (4 - (lg_sl ([.ref oL, .ref oC, .ref rW])).length) Slot.unset).toArray = ls at hl ⊢
  have hl : lv_has ls 4 [(0, .ref oL), (1, .ref oC), (2, .ref rW)] := hl
  refine lv_iconst (v := 0) hx hb dX4_weighNightNone_0 (by decide) ?_
  refine lv_istore_n (lv' := [(3, .int 0), (0, .ref oL), (1, .ref oC), (2, .ref rW)]) hx hb dX4_weighNightNone_1 rfl hl (by decide) rfl (fun ls hl => ?_)
  have hl := lv_sub hl (l' := [(3, .int 0), (0, .ref oL), (1, .ref oC), (2, .ref rW)]) [0, 1, 2, 3] rfl
  have key_n_1093 : ∀ (n_1093 : Nat) (z_1091 : Int32) (f_1092 : Nat → Int32) (H : Heap) (locs : List Loc) (ls : Array Slot), (0 ≤ z_1091.toInt ∧ z_1091.toInt ≤ 2147483647) → (2147483647 - z_1091.toInt).toNat < n_1093 → va_P (dC, dI) vwCl [(oc4 oL rL_values rL_supposed), (arI rL_values kL_values 18 f_1092), (oc1 oC iC_nodes iC_words iC_chances iC_unsures iC_slips iC_throneNode iC_saidWorth iC_unit rC_kind rC_parts rC_partNodes rC_weights rC_weightSums rC_toldWorths rC_steps rC_below rC_above rC_unsureWords rC_unsureWorths), (arI rC_kind kC_kind 18 fC_kind), (arI rW kW 18 fW)] H → va_D A [(oc4 oL rL_values rL_supposed), (arI rL_values kL_values 18 f_1092), (oc1 oC iC_nodes iC_words iC_chances iC_unsures iC_slips iC_throneNode iC_saidWorth iC_unit rC_kind rC_parts rC_partNodes rC_weights rC_weightSums rC_toldWorths rC_steps rC_below rC_above rC_unsureWords rC_unsureWorths), (arI rC_kind kC_kind 18 fC_kind), (arI rW kW 18 fW)] → va_S A s.heap H locs → lv_has ls 4 [(3, .int z_1091), (0, .ref oL), (1, .ref oC), (2, .ref rW)] → W p l e (headSpec (Cond.code yX4_weighNightNone cX4_weighNightNone 4 none :: wG) ({ frames := 0, cells := 0, slots := 0, locals := 0 })).room s m ([.ref oL, .ref oC, .ref rW] : List Value).toArray below meth c H locs 0 0 (MQ below (va_Qv (fun (_ : Nat) => True) (fun (_ : Nat) (t : State) => ∃ (nfL_values : Nat → Int32), Bw dC dI A [(oc4 oL rL_values rL_supposed), (arI rL_values kL_values 18 nfL_values), (oc1 oC iC_nodes iC_words iC_chances iC_unsures iC_slips iC_throneNode iC_saidWorth iC_unit rC_kind rC_parts rC_partNodes rC_weights rC_weightSums rC_toldWorths rC_steps rC_below rC_above rC_unsureWords rC_unsureWorths), (arI rC_kind kC_kind 18 fC_kind), (arI rW kW 18 fW)] [(kL_values, .int), (kC_kind, .int), (kW, .int)] t) A) ([.ref oL, .ref oC, .ref rW] : List Value).toArray s 0 0 A) (F0 m 2 ls []) := by
    intro n_1093
    induction n_1093 with
    | zero => intro z_1091 f_1092 H locs ls hi0_n_1093 hm; exact absurd hm (Nat.not_lt_zero _)
    | succ n_1093 ih_n_1093 =>
      intro z_1091 f_1092 H locs ls hi0_n_1093 hm_n_1093 hP hD hS hl
      have rg_z_1091 := fb_rng z_1091
      refine lv_iload_n hx hb dX4_weighNightNone_2 rfl (lv_at hl 0 rfl) ?_
      refine lv_aload_n hx hb dX4_weighNightNone_3 rfl (lv_at hl 2 rfl) ?_
      refine va_get (D := (dC, dI)) (ci := 1) (v := .int iC_nodes) (C := RX1) (T := TX1) (N := 19) hx hb hts inX1 hown hK hP 2 rfl rfl 0 (by decide) (hts _ wd_616) (fun _ h9 => h9) rfl dX4_weighNightNone_4 ?_
      have rg_iC_nodes := fb_rng iC_nodes
      refine lv_icmp_ge (tgt := 44) hx hb dX4_weighNightNone_7 (by decide) (fun c_1094 => ?_) (fun c_1094 => ?_)
      · skip
        have gc_1094 := ti_le c_1094 rfl rfl
        exact wq_v hx hb hr 0 trivial (fun t ht hW => ⟨f_1092, Bw.to hP hD hK ht hW⟩) hS dX4_weighNightNone_44 hlocks
      · skip
        have gc_1094 := ti_nle c_1094 rfl rfl
        refine lv_aload_n hx hb dX4_weighNightNone_10 rfl (lv_at hl 1 rfl) ?_
        refine va_get (D := (dC, dI)) (ci := 4) (v := .ref rL_values) (C := RX4) (T := TX4) (N := 2) hx hb hts inX4 hown hK hP 0 rfl rfl 0 (by decide) (hts _ wd_146) (fun _ h9 => h9) rfl dX4_weighNightNone_11 ?_
        refine lv_iload_n hx hb dX4_weighNightNone_14 rfl (lv_at hl 0 rfl) ?_
        refine lv_aload_n hx hb dX4_weighNightNone_15 rfl (lv_at hl 2 rfl) ?_
        refine va_get (D := (dC, dI)) (ci := 1) (v := .ref rC_kind) (C := RX1) (T := TX1) (N := 19) hx hb hts inX1 hown hK hP 2 rfl rfl 8 (by decide) (hts _ wd_617) (fun _ h9 => h9) rfl dX4_weighNightNone_16 ?_
        refine lv_iload_n hx hb dX4_weighNightNone_19 rfl (lv_at hl 0 rfl) ?_
        refine va_iald hx hb hK hP 3 1 rfl rfl (ti_in rfl hi0_n_1093.1 (om_97cd4a7c b_iC_nodes.2 gc_1094)) dX4_weighNightNone_20 ?_
        refine lv_topi (fun x_1095 ex_1095 => ?_)
        have rg_x_1095 := fb_rng x_1095
        have kx_1095 : (fC_kind z_1091.toNatClampNeg).toInt = x_1095.toInt := by rw [ex_1095]
        refine lv_if_ne (tgt := 30) hx hb dX4_weighNightNone_21 (by decide) (fun c_1096 => ?_) (fun c_1096 => ?_)
        · skip
          have gc_1096 := ti_ne c_1096 rfl kc_0
          refine lv_bipush (v := 50) hx hb dX4_weighNightNone_30 (by decide) ?_
          refine lv_aload_n hx hb dX4_weighNightNone_32 rfl (lv_at hl 2 rfl) ?_
          refine va_get (D := (dC, dI)) (ci := 1) (v := .int iC_unit) (C := RX1) (T := TX1) (N := 19) hx hb hts inX1 hown hK hP 2 rfl rfl 7 (by decide) (hts _ wd_618) (fun _ h9 => h9) rfl dX4_weighNightNone_33 ?_
          have rg_iC_unit := fb_rng iC_unit
          refine lv_imul hx hb dX4_weighNightNone_36 ?_
          refine lv_topi (fun x_1097 ex_1097 => ?_)
          have rg_x_1097 := fb_rng x_1097
          refine vz_iast hx hb hK hP hD hS 1 0 rfl rfl (ti_in rfl hi0_n_1093.1 (om_97cd4a7c b_iC_nodes.2 gc_1094)) dX4_weighNightNone_37 (fun H locs f_1098 hP hD hS => ?_)
          obtain ⟨hP, hD⟩ := wl2 (ws' := [(oc4 oL rL_values rL_supposed), (arI rL_values kL_values 18 f_1098), (oc1 oC iC_nodes iC_words iC_chances iC_unsures iC_slips iC_throneNode iC_saidWorth iC_unit rC_kind rC_parts rC_partNodes rC_weights rC_weightSums rC_toldWorths rC_steps rC_below rC_above rC_unsureWords rC_unsureWorths), (arI rC_kind kC_kind 18 fC_kind), (arI rW kW 18 fW)]) hP hD rfl
          obtain ⟨x_1099, ex_1099⟩ : ∃ z : Int32, z = z_1091 + Int32.ofInt 1 := ⟨_, rfl⟩
          have vx_1099 : x_1099.toInt = z_1091.toInt + 1 := ti_add (y := 1) ex_1099 rfl kc_1 (om_4e4fce7e hi0_n_1093.1) (om_a32d6481 b_iC_nodes.2 gc_1094)
          refine lv_iinc (v := x_1099) (lv' := [(3, .int x_1099), (0, .ref oL), (1, .ref oC), (2, .ref rW)]) hx hb dX4_weighNightNone_38 hl (k := 0) rfl ex_1099.symm (by decide) rfl (fun ls hl => ?_)
          refine lv_goto (tgt := 2) hx hb dX4_weighNightNone_41 (by decide) ?_
          exact ih_n_1093 x_1099 f_1098 _ _ _  ⟨(om_83b90de5 hi0_n_1093.1 vx_1099), (om_ed8867da b_iC_nodes.2 gc_1094 vx_1099)⟩ (ms_lt hm_n_1093 (om_b9393183 vx_1099) (om_1d9fa7fb b_iC_nodes.2 gc_1094)) hP hD hS (lv_sub hl [0, 1, 2, 3] rfl)
        · skip
          have gc_1096 := ti_eq c_1096 rfl kc_0
          refine lv_aload_n hx hb dX4_weighNightNone_24 rfl (lv_at hl 3 rfl) ?_
          refine lv_iload_n hx hb dX4_weighNightNone_25 rfl (lv_at hl 0 rfl) ?_
          refine va_iald hx hb hK hP 4 2 rfl rfl (ti_in rfl hi0_n_1093.1 (om_97cd4a7c b_iC_nodes.2 gc_1094)) dX4_weighNightNone_26 ?_
          refine lv_topi (fun x_1100 ex_1100 => ?_)
          have rg_x_1100 := fb_rng x_1100
          have kx_1100 : (fW z_1091.toNatClampNeg).toInt = x_1100.toInt := by rw [ex_1100]
          refine lv_goto (tgt := 32) hx hb dX4_weighNightNone_27 (by decide) ?_
          refine lv_aload_n hx hb dX4_weighNightNone_32 rfl (lv_at hl 2 rfl) ?_
          refine va_get (D := (dC, dI)) (ci := 1) (v := .int iC_unit) (C := RX1) (T := TX1) (N := 19) hx hb hts inX1 hown hK hP 2 rfl rfl 7 (by decide) (hts _ wd_618) (fun _ h9 => h9) rfl dX4_weighNightNone_33 ?_
          have rg_iC_unit := fb_rng iC_unit
          refine lv_imul hx hb dX4_weighNightNone_36 ?_
          refine lv_topi (fun x_1101 ex_1101 => ?_)
          have rg_x_1101 := fb_rng x_1101
          refine vz_iast hx hb hK hP hD hS 1 0 rfl rfl (ti_in rfl hi0_n_1093.1 (om_97cd4a7c b_iC_nodes.2 gc_1094)) dX4_weighNightNone_37 (fun H locs f_1102 hP hD hS => ?_)
          obtain ⟨hP, hD⟩ := wl2 (ws' := [(oc4 oL rL_values rL_supposed), (arI rL_values kL_values 18 f_1102), (oc1 oC iC_nodes iC_words iC_chances iC_unsures iC_slips iC_throneNode iC_saidWorth iC_unit rC_kind rC_parts rC_partNodes rC_weights rC_weightSums rC_toldWorths rC_steps rC_below rC_above rC_unsureWords rC_unsureWorths), (arI rC_kind kC_kind 18 fC_kind), (arI rW kW 18 fW)]) hP hD rfl
          obtain ⟨x_1103, ex_1103⟩ : ∃ z : Int32, z = z_1091 + Int32.ofInt 1 := ⟨_, rfl⟩
          have vx_1103 : x_1103.toInt = z_1091.toInt + 1 := ti_add (y := 1) ex_1103 rfl kc_1 (om_4e4fce7e hi0_n_1093.1) (om_a32d6481 b_iC_nodes.2 gc_1094)
          refine lv_iinc (v := x_1103) (lv' := [(3, .int x_1103), (0, .ref oL), (1, .ref oC), (2, .ref rW)]) hx hb dX4_weighNightNone_38 hl (k := 0) rfl ex_1103.symm (by decide) rfl (fun ls hl => ?_)
          refine lv_goto (tgt := 2) hx hb dX4_weighNightNone_41 (by decide) ?_
          exact ih_n_1093 x_1103 f_1102 _ _ _  ⟨(om_83b90de5 hi0_n_1093.1 vx_1103), (om_ed8867da b_iC_nodes.2 gc_1094 vx_1103)⟩ (ms_lt hm_n_1093 (om_b9393183 vx_1103) (om_1d9fa7fb b_iC_nodes.2 gc_1094)) hP hD hS (lv_sub hl [0, 1, 2, 3] rfl)
  exact key_n_1093 (((2147483647 - (0 : Int32).toInt).toNat) + 1) 0 fL_values _ _ _  ⟨(om_b1de7dbe kc_0), (om_daf17c64 kc_0)⟩ (Nat.lt_add_one _) hP hD hS hl
set_option maxHeartbeats 4000000 in
set_option maxRecDepth 100000 in
theorem tX4_weighNextNight (l : Launch) (dC : Nat → ClassId) (dI : Nat → Nat → Nat) (sz : Nat) (oL : Nat) (rL_values : Nat) (fL_values : Nat → Int32) (kL_values : ClassId) (rL_supposed : Nat) (oC : Nat) (iC_nodes : Int32) (iC_words : Int32) (iC_chances : Int32) (iC_unsures : Int32) (iC_slips : Int32) (iC_throneNode : Int32) (iC_saidWorth : Int32) (iC_unit : Int32) (rC_kind : Nat) (fC_kind : Nat → Int32) (kC_kind : ClassId) (rC_parts : Nat) (fC_parts : Nat → Int32) (kC_parts : ClassId) (rC_partNodes : Nat) (fC_partNodes : Nat → Int32) (kC_partNodes : ClassId) (rC_weights : Nat) (fC_weights : Nat → Int32) (kC_weights : ClassId) (rC_weightSums : Nat) (fC_weightSums : Nat → Int32) (kC_weightSums : ClassId) (rC_toldWorths : Nat) (rC_steps : Nat) (rC_below : Nat) (rC_above : Nat) (rC_unsureWords : Nat) (rC_unsureWorths : Nat) (b_iC_nodes : 0 ≤ iC_nodes.toInt ∧ iC_nodes.toInt ≤ 18) (b_iC_unsures : 0 ≤ iC_unsures.toInt ∧ iC_unsures.toInt ≤ 4) (b_iC_throneNode : (-1) ≤ iC_throneNode.toInt ∧ iC_throneNode.toInt ≤ 17) (a_fC_parts : ∀ j : Nat, j < 18 → 0 ≤ (fC_parts j).toInt ∧ (fC_parts j).toInt ≤ 4) (a_fC_partNodes : ∀ j : Nat, j < 72 → 0 ≤ (fC_partNodes j).toInt ∧ (fC_partNodes j).toInt ≤ 17)  : Met l yX4_weighNextNight (Cond.code yX4_weighNextNight cX4_weighNextNight 3 none :: wG) ({ frames := 2, cells := 0, slots := 0, locals := 48 }) (va_Pc [.ref oL, .ref oC] (Pw dC dI sz [(oc4 oL rL_values rL_supposed), (arI rL_values kL_values 18 fL_values), (oc1 oC iC_nodes iC_words iC_chances iC_unsures iC_slips iC_throneNode iC_saidWorth iC_unit rC_kind rC_parts rC_partNodes rC_weights rC_weightSums rC_toldWorths rC_steps rC_below rC_above rC_unsureWords rC_unsureWorths), (arI rC_kind kC_kind 18 fC_kind), (arI rC_parts kC_parts 18 fC_parts), (arI rC_partNodes kC_partNodes 72 fC_partNodes), (arI rC_weights kC_weights 72 fC_weights), (arI rC_weightSums kC_weightSums 18 fC_weightSums)] [(kL_values, .int), (kC_kind, .int), (kC_parts, .int), (kC_partNodes, .int), (kC_weights, .int), (kC_weightSums, .int)])) (va_Qv (fun (_ : Nat) => True) (fun (_ : Nat) (t : State) => ∃ (nfL_values : Nat → Int32), Bw dC dI (va_A [(oc4 oL rL_values rL_supposed), (arI rL_values kL_values 18 fL_values), (oc1 oC iC_nodes iC_words iC_chances iC_unsures iC_slips iC_throneNode iC_saidWorth iC_unit rC_kind rC_parts rC_partNodes rC_weights rC_weightSums rC_toldWorths rC_steps rC_below rC_above rC_unsureWords rC_unsureWorths), (arI rC_kind kC_kind 18 fC_kind), (arI rC_parts kC_parts 18 fC_parts), (arI rC_partNodes kC_partNodes 72 fC_partNodes), (arI rC_weights kC_weights 72 fC_weights), (arI rC_weightSums kC_weightSums 18 fC_weightSums)] sz) [(oc4 oL rL_values rL_supposed), (arI rL_values kL_values 18 nfL_values), (oc1 oC iC_nodes iC_words iC_chances iC_unsures iC_slips iC_throneNode iC_saidWorth iC_unit rC_kind rC_parts rC_partNodes rC_weights rC_weightSums rC_toldWorths rC_steps rC_below rC_above rC_unsureWords rC_unsureWorths), (arI rC_kind kC_kind 18 fC_kind), (arI rC_parts kC_parts 18 fC_parts), (arI rC_partNodes kC_partNodes 72 fC_partNodes), (arI rC_weights kC_weights 72 fC_weights), (arI rC_weightSums kC_weightSums 18 fC_weightSums)] [(kL_values, .int), (kC_kind, .int), (kC_parts, .int), (kC_partNodes, .int), (kC_weights, .int), (kC_weightSums, .int)] t) (va_A [(oc4 oL rL_values rL_supposed), (arI rL_values kL_values 18 fL_values), (oc1 oC iC_nodes iC_words iC_chances iC_unsures iC_slips iC_throneNode iC_saidWorth iC_unit rC_kind rC_parts rC_partNodes rC_weights rC_weightSums rC_toldWorths rC_steps rC_below rC_above rC_unsureWords rC_unsureWorths), (arI rC_kind kC_kind 18 fC_kind), (arI rC_parts kC_parts 18 fC_parts), (arI rC_partNodes kC_partNodes 72 fC_partNodes), (arI rC_weights kC_weights 72 fC_weights), (arI rC_weightSums kC_weightSums 18 fC_weightSums)] sz)) 0 0 (va_A [(oc4 oL rL_values rL_supposed), (arI rL_values kL_values 18 fL_values), (oc1 oC iC_nodes iC_words iC_chances iC_unsures iC_slips iC_throneNode iC_saidWorth iC_unit rC_kind rC_parts rC_partNodes rC_weights rC_weightSums rC_toldWorths rC_steps rC_below rC_above rC_unsureWords rC_unsureWorths), (arI rC_kind kC_kind 18 fC_kind), (arI rC_parts kC_parts 18 fC_parts), (arI rC_partNodes kC_partNodes 72 fC_partNodes), (arI rC_weights kC_weights 72 fC_weights), (arI rC_weightSums kC_weightSums 18 fC_weightSums)] sz) := by
  refine Met.ofW (cc := cX4_weighNextNight) (maxL := 3) (ret := none) pnX4 rfl ?_
  intro p e s m args below meth c s₁ B hml hv
  obtain ⟨rfl, hsz, hP, hK, hD0, hE⟩ := hv
  have hx := B.exec
  have hb := B.bytes
  have hr := B.returns
  have hts : ∀ w ∈ wG, w.before ([.ref oL, .ref oC] : List Value).toArray s = true := fun w h => atoms_spec (ws := Cond.code yX4_weighNextNight cX4_weighNextNight 3 none :: wG) B.pre w (List.mem_cons_of_mem _ h)
  have hown : s.vm.findClass RX4 = some m.cls := own_of B.named rfl
  have hlocks := B.notSynchronized
  subst hsz
  have hD := hD0.self (sz := s.heap.size)
  generalize hAe : va_A [(oc4 oL rL_values rL_supposed), (arI rL_values kL_values 18 fL_values), (oc1 oC iC_nodes iC_words iC_chances iC_unsures iC_slips iC_throneNode iC_saidWorth iC_unit rC_kind rC_parts rC_partNodes rC_weights rC_weightSums rC_toldWorths rC_steps rC_below rC_above rC_unsureWords rC_unsureWorths), (arI rC_kind kC_kind 18 fC_kind), (arI rC_parts kC_parts 18 fC_parts), (arI rC_partNodes kC_partNodes 72 fC_partNodes), (arI rC_weights kC_weights 72 fC_weights), (arI rC_weightSums kC_weightSums 18 fC_weightSums)] s.heap.size = A at hD hE ⊢
  have hA : ∀ q : Nat, s.heap.size ≤ q → A q := fun q h => by rw [← hAe]; exact Or.inr h
  have hS : va_S A s.heap s.heap [] := va_S.rf
  have hl := lv_entry ([.ref oL, .ref oC]) (n := 3) (Nat.le_of_ble_eq_true rfl)
  rw [lg_entry_eq]
  generalize (lg_sl ([.ref oL, .ref oC]) ++ List.replicate (3 - (lg_sl ([.ref oL, .ref oC])).length) Slot.unset).toArray = ls at hl ⊢
  have hl : lv_has ls 3 [(0, .ref oL), (1, .ref oC)] := hl
  refine lv_aload_n hx hb dX4_weighNextNight_0 rfl (lv_at hl 1 rfl) ?_
  refine va_get (D := (dC, dI)) (ci := 1) (v := .int iC_nodes) (C := RX1) (T := TX1) (N := 19) hx hb hts inX1 hown hK hP 2 rfl rfl 0 (by decide) (hts _ wd_616) (fun _ h9 => h9) rfl dX4_weighNextNight_1 ?_
  refine lv_iconst (v := 1) hx hb dX4_weighNextNight_4 (by decide) ?_
  refine lv_isub hx hb dX4_weighNextNight_5 ?_
  refine lv_topi (fun x_1125 ex_1125 => ?_)
  have vx_1125 : x_1125.toInt = iC_nodes.toInt + (-1) := om_89646172 (ti_sub ex_1125 rfl kc_1 (om_e65a73c2 b_iC_nodes.1) (om_6178c2cd b_iC_nodes.2))
  refine lv_istore_n (lv' := [(2, .int x_1125), (0, .ref oL), (1, .ref oC)]) hx hb dX4_weighNextNight_6 rfl hl (by decide) rfl (fun ls hl => ?_)
  have hl := lv_sub hl (l' := [(2, .int x_1125), (0, .ref oL), (1, .ref oC)]) [0, 1, 2] rfl
  have key_n_1128 : ∀ (n_1128 : Nat) (z_1126 : Int32) (f_1127 : Nat → Int32) (H : Heap) (locs : List Loc) (ls : Array Slot), ((-1) ≤ z_1126.toInt ∧ z_1126.toInt ≤ 17) → (z_1126.toInt - (-1)).toNat < n_1128 → va_P (dC, dI) vwCl [(oc4 oL rL_values rL_supposed), (arI rL_values kL_values 18 f_1127), (oc1 oC iC_nodes iC_words iC_chances iC_unsures iC_slips iC_throneNode iC_saidWorth iC_unit rC_kind rC_parts rC_partNodes rC_weights rC_weightSums rC_toldWorths rC_steps rC_below rC_above rC_unsureWords rC_unsureWorths), (arI rC_kind kC_kind 18 fC_kind), (arI rC_parts kC_parts 18 fC_parts), (arI rC_partNodes kC_partNodes 72 fC_partNodes), (arI rC_weights kC_weights 72 fC_weights), (arI rC_weightSums kC_weightSums 18 fC_weightSums)] H → va_D A [(oc4 oL rL_values rL_supposed), (arI rL_values kL_values 18 f_1127), (oc1 oC iC_nodes iC_words iC_chances iC_unsures iC_slips iC_throneNode iC_saidWorth iC_unit rC_kind rC_parts rC_partNodes rC_weights rC_weightSums rC_toldWorths rC_steps rC_below rC_above rC_unsureWords rC_unsureWorths), (arI rC_kind kC_kind 18 fC_kind), (arI rC_parts kC_parts 18 fC_parts), (arI rC_partNodes kC_partNodes 72 fC_partNodes), (arI rC_weights kC_weights 72 fC_weights), (arI rC_weightSums kC_weightSums 18 fC_weightSums)] → va_S A s.heap H locs → lv_has ls 3 [(2, .int z_1126), (0, .ref oL), (1, .ref oC)] → W p l e (headSpec (Cond.code yX4_weighNextNight cX4_weighNextNight 3 none :: wG) ({ frames := 2, cells := 0, slots := 0, locals := 48 })).room s m ([.ref oL, .ref oC] : List Value).toArray below meth c H locs 0 0 (MQ below (va_Qv (fun (_ : Nat) => True) (fun (_ : Nat) (t : State) => ∃ (nfL_values : Nat → Int32), Bw dC dI A [(oc4 oL rL_values rL_supposed), (arI rL_values kL_values 18 nfL_values), (oc1 oC iC_nodes iC_words iC_chances iC_unsures iC_slips iC_throneNode iC_saidWorth iC_unit rC_kind rC_parts rC_partNodes rC_weights rC_weightSums rC_toldWorths rC_steps rC_below rC_above rC_unsureWords rC_unsureWorths), (arI rC_kind kC_kind 18 fC_kind), (arI rC_parts kC_parts 18 fC_parts), (arI rC_partNodes kC_partNodes 72 fC_partNodes), (arI rC_weights kC_weights 72 fC_weights), (arI rC_weightSums kC_weightSums 18 fC_weightSums)] [(kL_values, .int), (kC_kind, .int), (kC_parts, .int), (kC_partNodes, .int), (kC_weights, .int), (kC_weightSums, .int)] t) A) ([.ref oL, .ref oC] : List Value).toArray s 0 0 A) (F0 m 7 ls []) := by
    intro n_1128
    induction n_1128 with
    | zero => intro z_1126 f_1127 H locs ls hi0_n_1128 hm; exact absurd hm (Nat.not_lt_zero _)
    | succ n_1128 ih_n_1128 =>
      intro z_1126 f_1127 H locs ls hi0_n_1128 hm_n_1128 hP hD hS hl
      refine lv_iload_n hx hb dX4_weighNextNight_7 rfl (lv_at hl 0 rfl) ?_
      refine lv_if_lt (tgt := 38) hx hb dX4_weighNextNight_8 (by decide) (fun c_1129 => ?_) (fun c_1129 => ?_)
      · skip
        have gc_1129 := ti_lt c_1129 rfl kc_0
        exact wq_v hx hb hr 0 trivial (fun t ht hW => ⟨f_1127, Bw.to hP hD hK ht hW⟩) hS dX4_weighNextNight_38 hlocks
      · skip
        have gc_1129 := ti_nlt c_1129 rfl kc_0
        refine lv_aload_n hx hb dX4_weighNextNight_11 rfl (lv_at hl 2 rfl) ?_
        refine va_get (D := (dC, dI)) (ci := 1) (v := .ref rC_kind) (C := RX1) (T := TX1) (N := 19) hx hb hts inX1 hown hK hP 2 rfl rfl 8 (by decide) (hts _ wd_617) (fun _ h9 => h9) rfl dX4_weighNextNight_12 ?_
        refine lv_iload_n hx hb dX4_weighNextNight_15 rfl (lv_at hl 0 rfl) ?_
        refine va_iald hx hb hK hP 3 1 rfl rfl (ti_in rfl gc_1129 (om_b3735a34 hi0_n_1128.2)) dX4_weighNextNight_16 ?_
        refine lv_topi (fun x_1130 ex_1130 => ?_)
        have kx_1130 : (fC_kind z_1126.toNatClampNeg).toInt = x_1130.toInt := by rw [ex_1130]
        refine lv_if_eq (tgt := 32) hx hb dX4_weighNextNight_17 (by decide) (fun c_1131 => ?_) (fun c_1131 => ?_)
        · skip
          have gc_1131 := ti_eq c_1131 rfl kc_0
          obtain ⟨x_1132, ex_1132⟩ : ∃ z : Int32, z = z_1126 + Int32.ofInt (-1) := ⟨_, rfl⟩
          have vx_1132 : x_1132.toInt = z_1126.toInt + (-1) := ti_add (y := (-1)) ex_1132 rfl kc_m1 (om_7c9e45be hi0_n_1128.1) (om_27bcd485 hi0_n_1128.2)
          refine lv_iinc (v := x_1132) (lv' := [(2, .int x_1132), (0, .ref oL), (1, .ref oC)]) hx hb dX4_weighNextNight_32 hl (k := 0) rfl ex_1132.symm (by decide) rfl (fun ls hl => ?_)
          refine lv_goto (tgt := 7) hx hb dX4_weighNextNight_35 (by decide) ?_
          exact ih_n_1128 x_1132 f_1127 _ _ _  ⟨(om_73d763a0 gc_1129 vx_1132), (om_96a52bfb hi0_n_1128.2 vx_1132)⟩ (ms_lt hm_n_1128 (om_a2cb7fa1 vx_1132) (om_9b4dc480 gc_1129)) hP hD hS (lv_sub hl [0, 1, 2] rfl)
        · skip
          have gc_1131 := ti_ne c_1131 rfl kc_0
          refine lv_aload_n hx hb dX4_weighNextNight_20 rfl (lv_at hl 1 rfl) ?_
          refine va_get (D := (dC, dI)) (ci := 4) (v := .ref rL_values) (C := RX4) (T := TX4) (N := 2) hx hb hts inX4 hown hK hP 0 rfl rfl 0 (by decide) (hts _ wd_146) (fun _ h9 => h9) rfl dX4_weighNextNight_21 ?_
          refine lv_iload_n hx hb dX4_weighNextNight_24 rfl (lv_at hl 0 rfl) ?_
          refine lv_aload_n hx hb dX4_weighNextNight_25 rfl (lv_at hl 1 rfl) ?_
          refine lv_aload_n hx hb dX4_weighNextNight_26 rfl (lv_at hl 2 rfl) ?_
          refine lv_iload_n hx hb dX4_weighNextNight_27 rfl (lv_at hl 0 rfl) ?_
          have hFc := va_freeI hD hS hA
          refine va_calli (va_runV (As := [.ref oC, .int z_1126]) (rest := [.int z_1126, .ref rL_values]) ⟨hx, hb, hml, hown, hts⟩ (tX4_joined l dC dI _ oL rL_values f_1127 kL_values rL_supposed oC iC_nodes iC_words iC_chances iC_unsures iC_slips iC_throneNode iC_saidWorth iC_unit rC_kind fC_kind kC_kind rC_parts fC_parts kC_parts rC_partNodes fC_partNodes kC_partNodes rC_weights fC_weights kC_weights rC_weightSums fC_weightSums kC_weightSums rC_toldWorths rC_steps rC_below rC_above rC_unsureWords rC_unsureWorths z_1126 b_iC_nodes b_iC_unsures b_iC_throneNode a_fC_parts a_fC_partNodes ⟨gc_1129, hi0_n_1128.2⟩) (cwV 2 hts (wd_V wd_619 wd_620 wd_621 wd_37 (wd_c wd_622)) rfl rfl rfl dv_yX4_joined_2 ⟨Nat.le_of_ble_eq_true rfl, Nat.le_of_ble_eq_true rfl⟩) ⟨Pw.fb, recvX4 hK hP (q0 := 0) rfl, fun U hU hW => Pw.to hP hD hK hE hS hFc hU hW⟩ rfl rfl hl.1 rfl (lv_room (Nat.le_of_ble_eq_true rfl)) dX4_weighNextNight_28 ⟨Nat.le_of_ble_eq_true rfl, Nat.le_of_ble_eq_true rfl⟩) hS (fun q _ h => hFc q h) hFc (fun r u t H locs ht hvm hw hB hz1 hk1 hS => ?_)
          obtain ⟨hP, hD⟩ := Bw.goA (ws' := [(oc4 oL rL_values rL_supposed), (arI rL_values kL_values 18 f_1127), (oc1 oC iC_nodes iC_words iC_chances iC_unsures iC_slips iC_throneNode iC_saidWorth iC_unit rC_kind rC_parts rC_partNodes rC_weights rC_weightSums rC_toldWorths rC_steps rC_below rC_above rC_unsureWords rC_unsureWorths), (arI rC_kind kC_kind 18 fC_kind), (arI rC_parts kC_parts 18 fC_parts), (arI rC_partNodes kC_partNodes 72 fC_partNodes), (arI rC_weights kC_weights 72 fC_weights), (arI rC_weightSums kC_weightSums 18 fC_weightSums)]) hB rfl ht hFc rfl
          clear hz1 hk1 hvm ht hB
          obtain ⟨x_1133, rfl⟩ : ∃ z, z = r := ⟨_, rfl⟩
          refine vz_iast hx hb hK hP hD hS 1 0 rfl rfl (ti_in rfl gc_1129 (om_b3735a34 hi0_n_1128.2)) dX4_weighNextNight_31 (fun H locs f_1134 hP hD hS => ?_)
          obtain ⟨hP, hD⟩ := wl2 (ws' := [(oc4 oL rL_values rL_supposed), (arI rL_values kL_values 18 f_1134), (oc1 oC iC_nodes iC_words iC_chances iC_unsures iC_slips iC_throneNode iC_saidWorth iC_unit rC_kind rC_parts rC_partNodes rC_weights rC_weightSums rC_toldWorths rC_steps rC_below rC_above rC_unsureWords rC_unsureWorths), (arI rC_kind kC_kind 18 fC_kind), (arI rC_parts kC_parts 18 fC_parts), (arI rC_partNodes kC_partNodes 72 fC_partNodes), (arI rC_weights kC_weights 72 fC_weights), (arI rC_weightSums kC_weightSums 18 fC_weightSums)]) hP hD rfl
          obtain ⟨x_1135, ex_1135⟩ : ∃ z : Int32, z = z_1126 + Int32.ofInt (-1) := ⟨_, rfl⟩
          have vx_1135 : x_1135.toInt = z_1126.toInt + (-1) := ti_add (y := (-1)) ex_1135 rfl kc_m1 (om_7c9e45be hi0_n_1128.1) (om_27bcd485 hi0_n_1128.2)
          refine lv_iinc (v := x_1135) (lv' := [(2, .int x_1135), (0, .ref oL), (1, .ref oC)]) hx hb dX4_weighNextNight_32 hl (k := 0) rfl ex_1135.symm (by decide) rfl (fun ls hl => ?_)
          refine lv_goto (tgt := 7) hx hb dX4_weighNextNight_35 (by decide) ?_
          exact ih_n_1128 x_1135 f_1134 _ _ _  ⟨(om_73d763a0 gc_1129 vx_1135), (om_96a52bfb hi0_n_1128.2 vx_1135)⟩ (ms_lt hm_n_1128 (om_a2cb7fa1 vx_1135) (om_9b4dc480 gc_1129)) hP hD hS (lv_sub hl [0, 1, 2] rfl)
  exact key_n_1128 (((x_1125.toInt - (-1)).toNat) + 1) x_1125 fL_values _ _ _  ⟨(om_73d763a0 b_iC_nodes.1 vx_1125), (om_18eccbe9 b_iC_nodes.2 vx_1125)⟩ (Nat.lt_add_one _) hP hD hS hl
