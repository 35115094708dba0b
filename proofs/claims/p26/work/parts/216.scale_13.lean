set_option maxHeartbeats 4000000 in
set_option maxRecDepth 100000 in
theorem tX4_throneValue (l : Launch) (dC : Nat → ClassId) (dI : Nat → Nat → Nat) (sz : Nat) (oL : Nat) (rL_values : Nat) (fL_values : Nat → Int32) (kL_values : ClassId) (rL_supposed : Nat) (oC : Nat) (iC_nodes : Int32) (iC_words : Int32) (iC_chances : Int32) (iC_unsures : Int32) (iC_slips : Int32) (iC_throneNode : Int32) (iC_saidWorth : Int32) (iC_unit : Int32) (rC_kind : Nat) (rC_parts : Nat) (rC_partNodes : Nat) (rC_weights : Nat) (rC_weightSums : Nat) (rC_toldWorths : Nat) (rC_steps : Nat) (rC_below : Nat) (rC_above : Nat) (rC_unsureWords : Nat) (rC_unsureWorths : Nat) (b_iC_nodes : 0 ≤ iC_nodes.toInt ∧ iC_nodes.toInt ≤ 18) (b_iC_unsures : 0 ≤ iC_unsures.toInt ∧ iC_unsures.toInt ≤ 4) (b_iC_throneNode : (-1) ≤ iC_throneNode.toInt ∧ iC_throneNode.toInt ≤ 17)  : Met l yX4_throneValue (Cond.code yX4_throneValue cX4_throneValue 2 (some .int) :: wG) ({ frames := 1, cells := 0, slots := 0, locals := 21 }) (va_Pc [.ref oL, .ref oC] (Pw dC dI sz [(oc4 oL rL_values rL_supposed), (arI rL_values kL_values 18 fL_values), (oc1 oC iC_nodes iC_words iC_chances iC_unsures iC_slips iC_throneNode iC_saidWorth iC_unit rC_kind rC_parts rC_partNodes rC_weights rC_weightSums rC_toldWorths rC_steps rC_below rC_above rC_unsureWords rC_unsureWorths)] [(kL_values, .int)])) (va_Qi (fun (r : Int32) (_ : Nat) => (True ∧ True) ∧ PX4_throneValue fL_values iC_nodes iC_throneNode = r) (fun (_ : Nat) (t : State) => Bw dC dI (va_A [(oc4 oL rL_values rL_supposed), (arI rL_values kL_values 18 fL_values), (oc1 oC iC_nodes iC_words iC_chances iC_unsures iC_slips iC_throneNode iC_saidWorth iC_unit rC_kind rC_parts rC_partNodes rC_weights rC_weightSums rC_toldWorths rC_steps rC_below rC_above rC_unsureWords rC_unsureWorths)] sz) [(oc4 oL rL_values rL_supposed), (arI rL_values kL_values 18 fL_values), (oc1 oC iC_nodes iC_words iC_chances iC_unsures iC_slips iC_throneNode iC_saidWorth iC_unit rC_kind rC_parts rC_partNodes rC_weights rC_weightSums rC_toldWorths rC_steps rC_below rC_above rC_unsureWords rC_unsureWorths)] [(kL_values, .int)] t) (va_A [(oc4 oL rL_values rL_supposed), (arI rL_values kL_values 18 fL_values), (oc1 oC iC_nodes iC_words iC_chances iC_unsures iC_slips iC_throneNode iC_saidWorth iC_unit rC_kind rC_parts rC_partNodes rC_weights rC_weightSums rC_toldWorths rC_steps rC_below rC_above rC_unsureWords rC_unsureWorths)] sz)) 0 0 (va_A [(oc4 oL rL_values rL_supposed), (arI rL_values kL_values 18 fL_values), (oc1 oC iC_nodes iC_words iC_chances iC_unsures iC_slips iC_throneNode iC_saidWorth iC_unit rC_kind rC_parts rC_partNodes rC_weights rC_weightSums rC_toldWorths rC_steps rC_below rC_above rC_unsureWords rC_unsureWorths)] sz) := by
  refine Met.ofW (cc := cX4_throneValue) (maxL := 2) (ret := (some .int)) (by decide) rfl ?_
  intro p e s m args below meth c s₁ B hml hv
  obtain ⟨rfl, hsz, hP, hK, hD0, hE⟩ := hv
  have hx := B.exec
  have hb := B.bytes
  have hr := B.returns
  have hts : ∀ w ∈ wG, w.before ([.ref oL, .ref oC] : List Value).toArray s = true := fun w h => atoms_spec (ws := Cond.code yX4_throneValue cX4_throneValue 2 (some .int) :: wG) B.pre w (List.mem_cons_of_mem _ h)
  have hown : s.vm.findClass RX4 = some m.cls := findClass_of_methodNamed B.named
  have hlocks := B.notSynchronized
  subst hsz
  have hD := hD0.self (sz := s.heap.size)
  generalize hAe : va_A [(oc4 oL rL_values rL_supposed), (arI rL_values kL_values 18 fL_values), (oc1 oC iC_nodes iC_words iC_chances iC_unsures iC_slips iC_throneNode iC_saidWorth iC_unit rC_kind rC_parts rC_partNodes rC_weights rC_weightSums rC_toldWorths rC_steps rC_below rC_above rC_unsureWords rC_unsureWorths)] s.heap.size = A at hD hE ⊢
  have hA : ∀ q : Nat, s.heap.size ≤ q → A q := fun q h => by rw [← hAe]; exact Or.inr h
  have hS : va_S A s.heap s.heap [] := va_S.rf
  have hl := lv_entry ([.ref oL, .ref oC]) (n := 2) (Nat.le_of_ble_eq_true rfl)
  rw [lg_entry_eq]
  generalize (lg_sl ([.ref oL, .ref oC]) ++ List.replicate (2 - (lg_sl ([.ref oL, .ref oC])).length) Slot.unset).toArray = ls at hl ⊢
  have hl : lv_has ls 2 [(0, .ref oL), (1, .ref oC)] := hl
  have hG := PX4_throneValue_eq fL_values iC_nodes iC_throneNode
  refine lv_aload_n hx hb dX4_throneValue_0 rfl (lv_at hl 1 rfl) ?_
  refine lv_aload_n hx hb dX4_throneValue_1 rfl (lv_at hl 1 rfl) ?_
  refine va_get (D := (dC, dI)) (ci := 1) (v := .int iC_throneNode) (C := RX1) (T := TX1) (N := 19) hx hb hts inX1 hown hK hP 2 rfl rfl 5 (by decide) (hts _ wd_633) (fun _ h9 => h9) rfl dX4_throneValue_2 ?_
  have hFc := va_free (wc := [(oc1 oC iC_nodes iC_words iC_chances iC_unsures iC_slips iC_throneNode iC_saidWorth iC_unit rC_kind rC_parts rC_partNodes rC_weights rC_weightSums rC_toldWorths rC_steps rC_below rC_above rC_unsureWords rC_unsureWorths)]) hD hS hA [2] rfl
  refine va_calli (va_runV (As := [.int iC_throneNode]) (rest := []) ⟨hx, hb, hml, hown, hts⟩ (tX1_hasNode l dC dI _ oC iC_nodes iC_words iC_chances iC_unsures iC_slips iC_throneNode iC_saidWorth iC_unit rC_kind rC_parts rC_partNodes rC_weights rC_weightSums rC_toldWorths rC_steps rC_below rC_above rC_unsureWords rC_unsureWorths iC_throneNode (by first | exact b_iC_nodes | omega | decide) (by first | exact b_iC_unsures | omega | decide) (by first | exact b_iC_throneNode | omega | decide)) (cwV 1 hts (wd_V wd_634 wd_326 wd_327 wd_19 (wd_c wd_328)) rfl rfl rfl (by decide +kernel) ⟨Nat.le_of_ble_eq_true rfl, Nat.le_of_ble_eq_true rfl⟩) ⟨Pw.fb, va_recv hK hP (ci := 1) (q0 := 2) rfl rfl, fun U hU hW => Pw.to (hP.sub [2] rfl) (hD.sub [2] (by decide) rfl) (hK.sub [] rfl) hE hS hFc hU hW⟩ rfl rfl hl.1 rfl (lv_room (Nat.le_of_ble_eq_true rfl)) dX4_throneValue_5 ⟨Nat.le_of_ble_eq_true rfl, Nat.le_of_ble_eq_true rfl⟩) hS (fun q _ h => hFc q h) hFc (fun r u t H locs ht hvm hw hB hz1 hk1 hS => ?_)
  have hru9 := hw.2
  have hw := hw.1
  obtain ⟨hP, hD, hK⟩ := Bw.go (ws' := [(oc4 oL rL_values rL_supposed), (arI rL_values kL_values 18 fL_values), (oc1 oC iC_nodes iC_words iC_chances iC_unsures iC_slips iC_throneNode iC_saidWorth iC_unit rC_kind rC_parts rC_partNodes rC_weights rC_weightSums rC_toldWorths rC_steps rC_below rC_above rC_unsureWords rC_unsureWorths)]) (tys' := [(kL_values, .int)]) hB rfl ht hvm hP hD hK [2] [0, 1] rfl (by decide) (by decide) [0] hk1 hFc rfl rfl rfl
  clear hz1 hk1 hvm ht hB
  rcases hw.2 with ⟨rfl, hc_753⟩ | ⟨rfl, hc_753⟩
  · skip
    have hG := hG.trans (lt_eq hru9.symm)
    have hG := hG.trans (if_pos rfl)
    refine lv_if_eq (tgt := 23) hx hb dX4_throneValue_8 (by decide) (fun c => absurd c (by decide)) (fun _ => ?_)
    refine lv_aload_n hx hb dX4_throneValue_11 rfl (lv_at hl 0 rfl) ?_
    refine va_get (D := (dC, dI)) (ci := 4) (v := .ref rL_values) (C := RX4) (T := TX4) (N := 2) hx hb hts inX4 hown hK hP 0 rfl rfl 0 (by decide) (hts _ wd_146) (fun _ h9 => h9) rfl dX4_throneValue_12 ?_
    refine lv_aload_n hx hb dX4_throneValue_15 rfl (lv_at hl 1 rfl) ?_
    refine va_get (D := (dC, dI)) (ci := 1) (v := .int iC_throneNode) (C := RX1) (T := TX1) (N := 19) hx hb hts inX1 hown hK hP 2 rfl rfl 5 (by decide) (hts _ wd_633) (fun _ h9 => h9) rfl dX4_throneValue_16 ?_
    refine va_iald hx hb hK hP 1 0 rfl rfl (ti_in rfl (by omega) (by omega)) dX4_throneValue_19 ?_
    refine lv_topi (fun x_756 ex_756 => ?_)
    have hG := hG.trans (lt_eq ex_756)
    have kx_756 : (fL_values iC_throneNode.toNatClampNeg).toInt = x_756.toInt := by rw [ex_756]
    refine lv_goto (tgt := 24) hx hb dX4_throneValue_20 (by decide) ?_
    exact W.iret hx hb hr (fun t ht hW => ⟨⟨_, 0, rfl, ⟨⟨trivial, trivial⟩, hG⟩, Bw.to (hP.sub [0, 1, 2] rfl) (hD.sub [0, 1, 2] (by decide) rfl) (hK.sub [0] rfl) ht hW⟩, hS.F ht⟩) hS.2.2 dX4_throneValue_24
  · skip
    have hG := hG.trans (lt_eq hru9.symm)
    have hG := hG.trans (if_neg (by decide))
    refine lv_if_eq (tgt := 23) hx hb dX4_throneValue_8 (by decide) (fun _ => ?_) (fun c => absurd c (by decide))
    refine lv_iconst (v := 0) hx hb dX4_throneValue_23 (by decide) ?_
    exact W.iret hx hb hr (fun t ht hW => ⟨⟨_, 0, rfl, ⟨⟨trivial, trivial⟩, hG⟩, Bw.to (hP.sub [0, 1, 2] rfl) (hD.sub [0, 1, 2] (by decide) rfl) (hK.sub [0] rfl) ht hW⟩, hS.F ht⟩) hS.2.2 dX4_throneValue_24
set_option maxHeartbeats 4000000 in
set_option maxRecDepth 100000 in
theorem tX4_joined (l : Launch) (dC : Nat → ClassId) (dI : Nat → Nat → Nat) (sz : Nat) (oL : Nat) (rL_values : Nat) (fL_values : Nat → Int32) (kL_values : ClassId) (rL_supposed : Nat) (oC : Nat) (iC_nodes : Int32) (iC_words : Int32) (iC_chances : Int32) (iC_unsures : Int32) (iC_slips : Int32) (iC_throneNode : Int32) (iC_saidWorth : Int32) (iC_unit : Int32) (rC_kind : Nat) (fC_kind : Nat → Int32) (kC_kind : ClassId) (rC_parts : Nat) (fC_parts : Nat → Int32) (kC_parts : ClassId) (rC_partNodes : Nat) (fC_partNodes : Nat → Int32) (kC_partNodes : ClassId) (rC_weights : Nat) (fC_weights : Nat → Int32) (kC_weights : ClassId) (rC_weightSums : Nat) (fC_weightSums : Nat → Int32) (kC_weightSums : ClassId) (rC_toldWorths : Nat) (rC_steps : Nat) (rC_below : Nat) (rC_above : Nat) (rC_unsureWords : Nat) (rC_unsureWorths : Nat) (p0 : Int32) (b_iC_nodes : 0 ≤ iC_nodes.toInt ∧ iC_nodes.toInt ≤ 18) (b_iC_unsures : 0 ≤ iC_unsures.toInt ∧ iC_unsures.toInt ≤ 4) (b_iC_throneNode : (-1) ≤ iC_throneNode.toInt ∧ iC_throneNode.toInt ≤ 17) (a_fC_parts : ∀ j : Nat, j < 18 → 0 ≤ (fC_parts j).toInt ∧ (fC_parts j).toInt ≤ 4) (a_fC_partNodes : ∀ j : Nat, j < 72 → 0 ≤ (fC_partNodes j).toInt ∧ (fC_partNodes j).toInt ≤ 17) (hp0 : 0 ≤ p0.toInt ∧ p0.toInt ≤ 17) : Met l yX4_joined (Cond.code yX4_joined cX4_joined 8 (some .int) :: wG) ({ frames := 1, cells := 0, slots := 0, locals := 21 }) (va_Pc [.ref oL, .ref oC, .int p0] (Pw dC dI sz [(oc4 oL rL_values rL_supposed), (arI rL_values kL_values 18 fL_values), (oc1 oC iC_nodes iC_words iC_chances iC_unsures iC_slips iC_throneNode iC_saidWorth iC_unit rC_kind rC_parts rC_partNodes rC_weights rC_weightSums rC_toldWorths rC_steps rC_below rC_above rC_unsureWords rC_unsureWorths), (arI rC_kind kC_kind 18 fC_kind), (arI rC_parts kC_parts 18 fC_parts), (arI rC_partNodes kC_partNodes 72 fC_partNodes), (arI rC_weights kC_weights 72 fC_weights), (arI rC_weightSums kC_weightSums 18 fC_weightSums)] [(kL_values, .int), (kC_kind, .int), (kC_parts, .int), (kC_partNodes, .int), (kC_weights, .int), (kC_weightSums, .int)])) (va_Qi (fun (r : Int32) (_ : Nat) => (True ∧ True) ∧ PX4_joined fL_values fC_kind fC_parts fC_partNodes fC_weights fC_weightSums p0 = r) (fun (_ : Nat) (t : State) => Bw dC dI (va_A [(oc4 oL rL_values rL_supposed), (arI rL_values kL_values 18 fL_values), (oc1 oC iC_nodes iC_words iC_chances iC_unsures iC_slips iC_throneNode iC_saidWorth iC_unit rC_kind rC_parts rC_partNodes rC_weights rC_weightSums rC_toldWorths rC_steps rC_below rC_above rC_unsureWords rC_unsureWorths), (arI rC_kind kC_kind 18 fC_kind), (arI rC_parts kC_parts 18 fC_parts), (arI rC_partNodes kC_partNodes 72 fC_partNodes), (arI rC_weights kC_weights 72 fC_weights), (arI rC_weightSums kC_weightSums 18 fC_weightSums)] sz) [(oc4 oL rL_values rL_supposed), (arI rL_values kL_values 18 fL_values), (oc1 oC iC_nodes iC_words iC_chances iC_unsures iC_slips iC_throneNode iC_saidWorth iC_unit rC_kind rC_parts rC_partNodes rC_weights rC_weightSums rC_toldWorths rC_steps rC_below rC_above rC_unsureWords rC_unsureWorths), (arI rC_kind kC_kind 18 fC_kind), (arI rC_parts kC_parts 18 fC_parts), (arI rC_partNodes kC_partNodes 72 fC_partNodes), (arI rC_weights kC_weights 72 fC_weights), (arI rC_weightSums kC_weightSums 18 fC_weightSums)] [(kL_values, .int), (kC_kind, .int), (kC_parts, .int), (kC_partNodes, .int), (kC_weights, .int), (kC_weightSums, .int)] t) (va_A [(oc4 oL rL_values rL_supposed), (arI rL_values kL_values 18 fL_values), (oc1 oC iC_nodes iC_words iC_chances iC_unsures iC_slips iC_throneNode iC_saidWorth iC_unit rC_kind rC_parts rC_partNodes rC_weights rC_weightSums rC_toldWorths rC_steps rC_below rC_above rC_unsureWords rC_unsureWorths), (arI rC_kind kC_kind 18 fC_kind), (arI rC_parts kC_parts 18 fC_parts), (arI rC_partNodes kC_partNodes 72 fC_partNodes), (arI rC_weights kC_weights 72 fC_weights), (arI rC_weightSums kC_weightSums 18 fC_weightSums)] sz)) 0 0 (va_A [(oc4 oL rL_values rL_supposed), (arI rL_values kL_values 18 fL_values), (oc1 oC iC_nodes iC_words iC_chances iC_unsures iC_slips iC_throneNode iC_saidWorth iC_unit rC_kind rC_parts rC_partNodes rC_weights rC_weightSums rC_toldWorths rC_steps rC_below rC_above rC_unsureWords rC_unsureWorths), (arI rC_kind kC_kind 18 fC_kind), (arI rC_parts kC_parts 18 fC_parts), (arI rC_partNodes kC_partNodes 72 fC_partNodes), (arI rC_weights kC_weights 72 fC_weights), (arI rC_weightSums kC_weightSums 18 fC_weightSums)] sz) := by
  refine Met.ofW (cc := cX4_joined) (maxL := 8) (ret := (some .int)) (by decide) rfl ?_
  intro p e s m args below meth c s₁ B hml hv
  obtain ⟨rfl, hsz, hP, hK, hD0, hE⟩ := hv
  have hx := B.exec
  have hb := B.bytes
  have hr := B.returns
  have hts : ∀ w ∈ wG, w.before ([.ref oL, .ref oC, .int p0] : List Value).toArray s = true := fun w h => atoms_spec (ws := Cond.code yX4_joined cX4_joined 8 (some .int) :: wG) B.pre w (List.mem_cons_of_mem _ h)
  have hown : s.vm.findClass RX4 = some m.cls := findClass_of_methodNamed B.named
  have hlocks := B.notSynchronized
  subst hsz
  have hD := hD0.self (sz := s.heap.size)
  generalize hAe : va_A [(oc4 oL rL_values rL_supposed), (arI rL_values kL_values 18 fL_values), (oc1 oC iC_nodes iC_words iC_chances iC_unsures iC_slips iC_throneNode iC_saidWorth iC_unit rC_kind rC_parts rC_partNodes rC_weights rC_weightSums rC_toldWorths rC_steps rC_below rC_above rC_unsureWords rC_unsureWorths), (arI rC_kind kC_kind 18 fC_kind), (arI rC_parts kC_parts 18 fC_parts), (arI rC_partNodes kC_partNodes 72 fC_partNodes), (arI rC_weights kC_weights 72 fC_weights), (arI rC_weightSums kC_weightSums 18 fC_weightSums)] s.heap.size = A at hD hE ⊢
  have hA : ∀ q : Nat, s.heap.size ≤ q → A q := fun q h => by rw [← hAe]; exact Or.inr h
  have hS : va_S A s.heap s.heap [] := va_S.rf
  have hl := lv_entry ([.ref oL, .ref oC, .int p0]) (n := 8) (Nat.le_of_ble_eq_true rfl)
  rw [lg_entry_eq]
  generalize (lg_sl ([.ref oL, .ref oC, .int p0]) ++ List.replicate (8 - (lg_sl ([.ref oL, .ref oC, .int p0])).length) Slot.unset).toArray = ls at hl ⊢
  have hl : lv_has ls 8 [(0, .ref oL), (1, .ref oC), (2, .int p0)] := hl
  have hG := PX4_joined_eq fL_values fC_kind fC_parts fC_partNodes fC_weights fC_weightSums p0
  have rg_p0 := fb_rng p0
  refine lv_aload_n hx hb dX4_joined_0 rfl (lv_at hl 1 rfl) ?_
  refine va_get (D := (dC, dI)) (ci := 1) (v := .ref rC_kind) (C := RX1) (T := TX1) (N := 19) hx hb hts inX1 hown hK hP 2 rfl rfl 8 (by decide) (hts _ wd_617) (fun _ h9 => h9) rfl dX4_joined_1 ?_
  refine lv_iload_n hx hb dX4_joined_4 rfl (lv_at hl 2 rfl) ?_
  refine va_iald hx hb hK hP 3 1 rfl rfl (ti_in rfl (by omega) (by omega)) dX4_joined_5 ?_
  refine lv_topi (fun x_800 ex_800 => ?_)
  have hG := hG.trans (lt_eq ex_800)
  have rg_x_800 := fb_rng x_800
  have kx_800 : (fC_kind p0.toNatClampNeg).toInt = x_800.toInt := by rw [ex_800]
  refine lv_istore_n (lv' := [(3, .int x_800), (0, .ref oL), (1, .ref oC), (2, .int p0)]) hx hb dX4_joined_6 rfl hl (by decide) rfl (fun ls hl => ?_)
  refine lv_iconst (v := 0) hx hb dX4_joined_7 (by decide) ?_
  refine lv_istore (lv' := [(4, .int 0), (3, .int x_800), (0, .ref oL), (1, .ref oC), (2, .int p0)]) hx hb dX4_joined_8 hl (by decide) rfl (fun ls hl => ?_)
  refine lv_iconst (v := 0) hx hb dX4_joined_10 (by decide) ?_
  refine lv_istore (lv' := [(5, .int 0), (4, .int 0), (3, .int x_800), (0, .ref oL), (1, .ref oC), (2, .int p0)]) hx hb dX4_joined_11 hl (by decide) rfl (fun ls hl => ?_)
  have hl := lv_sub hl (l' := [(5, .int 0), (4, .int 0), (3, .int x_800), (0, .ref oL), (1, .ref oC), (2, .int p0)]) [0, 1, 2, 3, 4, 5] rfl
  have key_n_803 : ∀ (n_803 : Nat) (z_801 : Int32) (z_802 : Int32) (H : Heap) (locs : List Loc) (ls : Array Slot), (0 ≤ z_801.toInt ∧ z_801.toInt ≤ 2147483647) → (2147483647 - z_801.toInt).toNat < n_803 → (PX4_joined fL_values fC_kind fC_parts fC_partNodes fC_weights fC_weightSums p0 = HX4_joined_0 fL_values fC_parts fC_partNodes fC_weights fC_weightSums p0 x_800 n_803 z_801 z_802) → va_P (dC, dI) vwCl [(oc4 oL rL_values rL_supposed), (arI rL_values kL_values 18 fL_values), (oc1 oC iC_nodes iC_words iC_chances iC_unsures iC_slips iC_throneNode iC_saidWorth iC_unit rC_kind rC_parts rC_partNodes rC_weights rC_weightSums rC_toldWorths rC_steps rC_below rC_above rC_unsureWords rC_unsureWorths), (arI rC_kind kC_kind 18 fC_kind), (arI rC_parts kC_parts 18 fC_parts), (arI rC_partNodes kC_partNodes 72 fC_partNodes), (arI rC_weights kC_weights 72 fC_weights), (arI rC_weightSums kC_weightSums 18 fC_weightSums)] H → va_D A [(oc4 oL rL_values rL_supposed), (arI rL_values kL_values 18 fL_values), (oc1 oC iC_nodes iC_words iC_chances iC_unsures iC_slips iC_throneNode iC_saidWorth iC_unit rC_kind rC_parts rC_partNodes rC_weights rC_weightSums rC_toldWorths rC_steps rC_below rC_above rC_unsureWords rC_unsureWorths), (arI rC_kind kC_kind 18 fC_kind), (arI rC_parts kC_parts 18 fC_parts), (arI rC_partNodes kC_partNodes 72 fC_partNodes), (arI rC_weights kC_weights 72 fC_weights), (arI rC_weightSums kC_weightSums 18 fC_weightSums)] → va_S A s.heap H locs → lv_has ls 8 [(5, .int z_801), (4, .int z_802), (3, .int x_800), (0, .ref oL), (1, .ref oC), (2, .int p0)] → W p l e (headSpec (Cond.code yX4_joined cX4_joined 8 (some .int) :: wG) ({ frames := 1, cells := 0, slots := 0, locals := 21 })).room s m ([.ref oL, .ref oC, .int p0] : List Value).toArray below meth c H locs 0 0 (MQ below (va_Qi (fun (r : Int32) (_ : Nat) => (True ∧ True) ∧ PX4_joined fL_values fC_kind fC_parts fC_partNodes fC_weights fC_weightSums p0 = r) (fun (_ : Nat) (t : State) => Bw dC dI A [(oc4 oL rL_values rL_supposed), (arI rL_values kL_values 18 fL_values), (oc1 oC iC_nodes iC_words iC_chances iC_unsures iC_slips iC_throneNode iC_saidWorth iC_unit rC_kind rC_parts rC_partNodes rC_weights rC_weightSums rC_toldWorths rC_steps rC_below rC_above rC_unsureWords rC_unsureWorths), (arI rC_kind kC_kind 18 fC_kind), (arI rC_parts kC_parts 18 fC_parts), (arI rC_partNodes kC_partNodes 72 fC_partNodes), (arI rC_weights kC_weights 72 fC_weights), (arI rC_weightSums kC_weightSums 18 fC_weightSums)] [(kL_values, .int), (kC_kind, .int), (kC_parts, .int), (kC_partNodes, .int), (kC_weights, .int), (kC_weightSums, .int)] t) A) ([.ref oL, .ref oC, .int p0] : List Value).toArray s 0 0 A) (F0 m 13 ls []) := by
    intro n_803
    induction n_803 with
    | zero => intro z_801 z_802 H locs ls hi0_n_803 hm; exact absurd hm (by omega)
    | succ n_803 ih_n_803 =>
      intro z_801 z_802 H locs ls hi0_n_803 hm hG hP hD hS hl
      have hG := hG.trans (HX4_joined_0_eq _ _ _ _ _ _ _ _ _ _)
      have rg_z_801 := fb_rng z_801
      have rg_z_802 := fb_rng z_802
      refine lv_iload hx hb dX4_joined_13 (lv_at hl 0 rfl) ?_
      refine lv_aload_n hx hb dX4_joined_15 rfl (lv_at hl 4 rfl) ?_
      refine va_get (D := (dC, dI)) (ci := 1) (v := .ref rC_parts) (C := RX1) (T := TX1) (N := 19) hx hb hts inX1 hown hK hP 2 rfl rfl 9 (by decide) (hts _ wd_623) (fun _ h9 => h9) rfl dX4_joined_16 ?_
      refine lv_iload_n hx hb dX4_joined_19 rfl (lv_at hl 5 rfl) ?_
      refine va_iald hx hb hK hP 4 2 rfl rfl (ti_in rfl (by omega) (by omega)) dX4_joined_20 ?_
      refine lv_topi (fun x_804 ex_804 => ?_)
      have hG := hG.trans (lt_eq ex_804)
      have rg_x_804 := fb_rng x_804
      have kx_804 : (fC_parts p0.toNatClampNeg).toInt = x_804.toInt := by rw [ex_804]
      have ux_804 := a_fC_parts _ (by have q := ti_cl (x := p0) rfl (by omega); omega : p0.toNatClampNeg < 18)
      rw [show fC_parts p0.toNatClampNeg = x_804 from ex_804.symm] at ux_804
      refine lv_icmp_ge (tgt := 106) hx hb dX4_joined_21 (by decide) (fun c_805 => ?_) (fun c_805 => ?_)
      · skip
        have hG := hG.trans (if_pos c_805)
        have gc_805 := ti_le c_805 rfl rfl
        refine lv_iload_n hx hb dX4_joined_106 rfl (lv_at hl 2 rfl) ?_
        refine lv_iconst (v := 3) hx hb dX4_joined_107 (by decide) ?_
        refine lv_icmp_ne (tgt := 125) hx hb dX4_joined_108 (by decide) (fun c_806 => ?_) (fun c_806 => ?_)
        · skip
          have hG := hG.trans (if_neg c_806)
          have gc_806 := ti_ne c_806 rfl kc_3
          refine lv_iload hx hb dX4_joined_125 (lv_at hl 1 rfl) ?_
          exact W.iret hx hb hr (fun t ht hW => ⟨⟨_, 0, rfl, ⟨⟨trivial, trivial⟩, hG⟩, Bw.to (hP.sub [0, 1, 2, 3, 4, 5, 6, 7] rfl) (hD.sub [0, 1, 2, 3, 4, 5, 6, 7] (by decide) rfl) (hK.sub [0, 1, 2, 3, 4, 5] rfl) ht hW⟩, hS.F ht⟩) hS.2.2 dX4_joined_127
        · skip
          have hG := hG.trans (if_pos c_806)
          have gc_806 := ti_eq c_806 rfl kc_3
          refine lv_iload hx hb dX4_joined_111 (lv_at hl 1 rfl) ?_
          refine lv_aload_n hx hb dX4_joined_113 rfl (lv_at hl 4 rfl) ?_
          refine va_get (D := (dC, dI)) (ci := 1) (v := .ref rC_weightSums) (C := RX1) (T := TX1) (N := 19) hx hb hts inX1 hown hK hP 2 rfl rfl 12 (by decide) (hts _ wd_626) (fun _ h9 => h9) rfl dX4_joined_114 ?_
          refine lv_iload_n hx hb dX4_joined_117 rfl (lv_at hl 5 rfl) ?_
          refine va_iald hx hb hK hP 7 5 rfl rfl (ti_in rfl (by omega) (by omega)) dX4_joined_118 ?_
          refine lv_topi (fun x_807 ex_807 => ?_)
          have hG := hG.trans (lt_eq ex_807)
          have rg_x_807 := fb_rng x_807
          have kx_807 : (fC_weightSums p0.toNatClampNeg).toInt = x_807.toInt := by rw [ex_807]
          have hFc : ∀ q, va_A [] _ q → A q := fun q h => hA q (Nat.le_trans hS.1 (va_nilA h))
          refine va_calli (va_runSN (As := [.int z_802, .int x_807]) (rest := []) ⟨hx, hb, hml, hown, hts⟩ (tX6_wholeOf l dC dI _ z_802 x_807 ) ⟨va_cnB 2 hts (wd_c wd_628) rfl rfl rfl (hE.2.2.2.1 _ (List.mem_of_getElem? (i := 4) rfl)) (hts _ wd_2) (by decide +kernel) ⟨Nat.le_of_ble_eq_true rfl, Nat.le_of_ble_eq_true rfl⟩, hts _ wd_627, trivial⟩ ⟨Pw.fb, fun U hU hW => Pn.to hK hE hS hA hU hW⟩ rfl rfl hl.1 rfl (lv_room (Nat.le_of_ble_eq_true rfl)) dX4_joined_119 ⟨Nat.le_of_ble_eq_true rfl, Nat.le_of_ble_eq_true rfl⟩) hS (fun q _ h => hFc q h) hFc (fun r u t H locs ht hvm hw hB hz1 hk1 hS => ?_)
          obtain ⟨hP, hD, hK⟩ := Bw.same ht hvm hP hD hK hk1 hFc
          clear hz1 hk1 hvm ht hB
          have hq9 := hw.2
          have hw := hw.1
          obtain ⟨x_808, rfl⟩ : ∃ z, z = r := ⟨_, rfl⟩
          have hq_x_808 := hq9
          have hG := hG.trans (lt_eq hq_x_808.symm)
          have rg_x_808 := fb_rng x_808
          refine lv_goto (tgt := 127) hx hb dX4_joined_122 (by decide) ?_
          exact W.iret hx hb hr (fun t ht hW => ⟨⟨_, 0, rfl, ⟨⟨trivial, trivial⟩, hG⟩, Bw.to (hP.sub [0, 1, 2, 3, 4, 5, 6, 7] rfl) (hD.sub [0, 1, 2, 3, 4, 5, 6, 7] (by decide) rfl) (hK.sub [0, 1, 2, 3, 4, 5] rfl) ht hW⟩, hS.F ht⟩) hS.2.2 dX4_joined_127
      · skip
        have hG := hG.trans (if_neg c_805)
        have gc_805 := ti_nle c_805 rfl rfl
        refine lv_iload_n hx hb dX4_joined_24 rfl (lv_at hl 5 rfl) ?_
        refine lv_iconst (v := 4) hx hb dX4_joined_25 (by decide) ?_
        refine lv_imul hx hb dX4_joined_26 ?_
        refine lv_topi (fun x_809 ex_809 => ?_)
        have hG := hG.trans (lt_eq ex_809)
        have vx_809 : x_809.toInt = 4 * p0.toInt := by have q := ti_mul ex_809 rfl kc_4 (by omega) (by omega); omega
        refine lv_iload hx hb dX4_joined_27 (lv_at hl 0 rfl) ?_
        refine lv_iadd hx hb dX4_joined_29 ?_
        refine lv_topi (fun x_810 ex_810 => ?_)
        have hG := hG.trans (lt_eq ex_810)
        have vx_810 : x_810.toInt = 4 * p0.toInt + z_801.toInt := by have q := ti_add ex_810 vx_809 rfl (by omega) (by omega); omega
        refine lv_istore (lv' := [(6, .int x_810), (5, .int z_801), (4, .int z_802), (3, .int x_800), (0, .ref oL), (1, .ref oC), (2, .int p0)]) hx hb dX4_joined_30 hl (by decide) rfl (fun ls hl => ?_)
        refine lv_aload_n hx hb dX4_joined_32 rfl (lv_at hl 4 rfl) ?_
        refine va_get (D := (dC, dI)) (ci := 4) (v := .ref rL_values) (C := RX4) (T := TX4) (N := 2) hx hb hts inX4 hown hK hP 0 rfl rfl 0 (by decide) (hts _ wd_146) (fun _ h9 => h9) rfl dX4_joined_33 ?_
        refine lv_aload_n hx hb dX4_joined_36 rfl (lv_at hl 5 rfl) ?_
        refine va_get (D := (dC, dI)) (ci := 1) (v := .ref rC_partNodes) (C := RX1) (T := TX1) (N := 19) hx hb hts inX1 hown hK hP 2 rfl rfl 10 (by decide) (hts _ wd_624) (fun _ h9 => h9) rfl dX4_joined_37 ?_
        refine lv_iload hx hb dX4_joined_40 (lv_at hl 0 rfl) ?_
        refine va_iald hx hb hK hP 5 3 rfl rfl (ti_in vx_810 (by omega) (by omega)) dX4_joined_42 ?_
        refine lv_topi (fun x_811 ex_811 => ?_)
        have hG := hG.trans (lt_eq ex_811)
        have rg_x_811 := fb_rng x_811
        have kx_811 : (fC_partNodes x_810.toNatClampNeg).toInt = x_811.toInt := by rw [ex_811]
        have ux_811 := a_fC_partNodes _ (by have q := ti_cl (x := x_810) vx_810 (by omega); omega : x_810.toNatClampNeg < 72)
        rw [show fC_partNodes x_810.toNatClampNeg = x_811 from ex_811.symm] at ux_811
        refine va_iald hx hb hK hP 1 0 rfl rfl (ti_in rfl (by omega) (by omega)) dX4_joined_43 ?_
        refine lv_topi (fun x_812 ex_812 => ?_)
        have hG := hG.trans (lt_eq ex_812)
        have rg_x_812 := fb_rng x_812
        have kx_812 : (fL_values x_811.toNatClampNeg).toInt = x_812.toInt := by rw [ex_812]
        refine lv_istore (lv' := [(7, .int x_812), (6, .int x_810), (5, .int z_801), (4, .int z_802), (3, .int x_800), (0, .ref oL), (1, .ref oC), (2, .int p0)]) hx hb dX4_joined_44 hl (by decide) rfl (fun ls hl => ?_)
        refine lv_iload_n hx hb dX4_joined_46 rfl (lv_at hl 4 rfl) ?_
        refine lv_iconst (v := 3) hx hb dX4_joined_47 (by decide) ?_
        refine lv_icmp_ne (tgt := 69) hx hb dX4_joined_48 (by decide) (fun c_813 => ?_) (fun c_813 => ?_)
        · skip
          have hG := hG.trans (if_neg c_813)
          have gc_813 := ti_ne c_813 rfl kc_3
          refine lv_iload hx hb dX4_joined_69 (lv_at hl 2 rfl) ?_
          refine lv_if_eq (tgt := 96) hx hb dX4_joined_71 (by decide) (fun c_814 => ?_) (fun c_814 => ?_)
          · skip
            have hG := hG.trans (if_pos c_814)
            have gc_814 := ti_eq c_814 rfl kc_0
            refine lv_iload hx hb dX4_joined_96 (lv_at hl 0 rfl) ?_
            refine lv_istore (lv' := [(4, .int x_812), (7, .int x_812), (6, .int x_810), (5, .int z_801), (3, .int x_800), (0, .ref oL), (1, .ref oC), (2, .int p0)]) hx hb dX4_joined_98 hl (by decide) rfl (fun ls hl => ?_)
            obtain ⟨x_815, ex_815⟩ : ∃ z : Int32, z = z_801 + Int32.ofInt 1 := ⟨_, rfl⟩
            have hG := hG.trans (lt_eq ex_815)
            have vx_815 : x_815.toInt = z_801.toInt + 1 := by have q := ti_add (y := 1) ex_815 rfl kc_1 (by omega) (by omega); omega
            refine lv_iinc (v := x_815) (lv' := [(5, .int x_815), (4, .int x_812), (7, .int x_812), (6, .int x_810), (3, .int x_800), (0, .ref oL), (1, .ref oC), (2, .int p0)]) hx hb dX4_joined_100 hl (k := 3) rfl ex_815.symm (by decide) rfl (fun ls hl => ?_)
            refine lv_goto (tgt := 13) hx hb dX4_joined_103 (by decide) ?_
            exact ih_n_803 x_815 x_812 _ _ _  (by first | omega | decide | assumption) (by omega) hG (hP.sub [0, 1, 2, 3, 4, 5, 6, 7] rfl) (hD.sub [0, 1, 2, 3, 4, 5, 6, 7] (by decide) rfl) hS (lv_sub hl [0, 1, 4, 5, 6, 7] rfl)
          · skip
            have hG := hG.trans (if_neg c_814)
            have gc_814 := ti_ne c_814 rfl kc_0
            refine lv_iload_n hx hb dX4_joined_74 rfl (lv_at hl 4 rfl) ?_
            refine lv_iconst (v := 1) hx hb dX4_joined_75 (by decide) ?_
            refine lv_icmp_ne (tgt := 89) hx hb dX4_joined_76 (by decide) (fun c_816 => ?_) (fun c_816 => ?_)
            · skip
              have hG := hG.trans (if_neg c_816)
              have gc_816 := ti_ne c_816 rfl kc_1
              refine lv_iload hx hb dX4_joined_89 (lv_at hl 0 rfl) ?_
              refine lv_iload hx hb dX4_joined_91 (lv_at hl 3 rfl) ?_
              refine lv_icmp_ge (tgt := 100) hx hb dX4_joined_93 (by decide) (fun c_817 => ?_) (fun c_817 => ?_)
              · skip
                have hG := hG.trans (if_pos c_817)
                have gc_817 := ti_le c_817 rfl rfl
                obtain ⟨x_818, ex_818⟩ : ∃ z : Int32, z = z_801 + Int32.ofInt 1 := ⟨_, rfl⟩
                have hG := hG.trans (lt_eq ex_818)
                have vx_818 : x_818.toInt = z_801.toInt + 1 := by have q := ti_add (y := 1) ex_818 rfl kc_1 (by omega) (by omega); omega
                refine lv_iinc (v := x_818) (lv' := [(5, .int x_818), (7, .int x_812), (6, .int x_810), (4, .int z_802), (3, .int x_800), (0, .ref oL), (1, .ref oC), (2, .int p0)]) hx hb dX4_joined_100 hl (k := 2) rfl ex_818.symm (by decide) rfl (fun ls hl => ?_)
                refine lv_goto (tgt := 13) hx hb dX4_joined_103 (by decide) ?_
                exact ih_n_803 x_818 z_802 _ _ _  (by first | omega | decide | assumption) (by omega) hG (hP.sub [0, 1, 2, 3, 4, 5, 6, 7] rfl) (hD.sub [0, 1, 2, 3, 4, 5, 6, 7] (by decide) rfl) hS (lv_sub hl [0, 3, 4, 5, 6, 7] rfl)
              · skip
                have hG := hG.trans (if_neg c_817)
                have gc_817 := ti_nle c_817 rfl rfl
                refine lv_iload hx hb dX4_joined_96 (lv_at hl 0 rfl) ?_
                refine lv_istore (lv' := [(4, .int x_812), (7, .int x_812), (6, .int x_810), (5, .int z_801), (3, .int x_800), (0, .ref oL), (1, .ref oC), (2, .int p0)]) hx hb dX4_joined_98 hl (by decide) rfl (fun ls hl => ?_)
                obtain ⟨x_819, ex_819⟩ : ∃ z : Int32, z = z_801 + Int32.ofInt 1 := ⟨_, rfl⟩
                have hG := hG.trans (lt_eq ex_819)
                have vx_819 : x_819.toInt = z_801.toInt + 1 := by have q := ti_add (y := 1) ex_819 rfl kc_1 (by omega) (by omega); omega
                refine lv_iinc (v := x_819) (lv' := [(5, .int x_819), (4, .int x_812), (7, .int x_812), (6, .int x_810), (3, .int x_800), (0, .ref oL), (1, .ref oC), (2, .int p0)]) hx hb dX4_joined_100 hl (k := 3) rfl ex_819.symm (by decide) rfl (fun ls hl => ?_)
                refine lv_goto (tgt := 13) hx hb dX4_joined_103 (by decide) ?_
                exact ih_n_803 x_819 x_812 _ _ _  (by first | omega | decide | assumption) (by omega) hG (hP.sub [0, 1, 2, 3, 4, 5, 6, 7] rfl) (hD.sub [0, 1, 2, 3, 4, 5, 6, 7] (by decide) rfl) hS (lv_sub hl [0, 1, 4, 5, 6, 7] rfl)
            · skip
              have hG := hG.trans (if_pos c_816)
              have gc_816 := ti_eq c_816 rfl kc_1
              refine lv_iload hx hb dX4_joined_79 (lv_at hl 0 rfl) ?_
              refine lv_iload hx hb dX4_joined_81 (lv_at hl 3 rfl) ?_
              refine lv_icmp_le (tgt := 100) hx hb dX4_joined_83 (by decide) (fun c_820 => ?_) (fun c_820 => ?_)
              · skip
                have hG := hG.trans (if_pos c_820)
                have gc_820 := ti_le c_820 rfl rfl
                obtain ⟨x_821, ex_821⟩ : ∃ z : Int32, z = z_801 + Int32.ofInt 1 := ⟨_, rfl⟩
                have hG := hG.trans (lt_eq ex_821)
                have vx_821 : x_821.toInt = z_801.toInt + 1 := by have q := ti_add (y := 1) ex_821 rfl kc_1 (by omega) (by omega); omega
                refine lv_iinc (v := x_821) (lv' := [(5, .int x_821), (7, .int x_812), (6, .int x_810), (4, .int z_802), (3, .int x_800), (0, .ref oL), (1, .ref oC), (2, .int p0)]) hx hb dX4_joined_100 hl (k := 2) rfl ex_821.symm (by decide) rfl (fun ls hl => ?_)
                refine lv_goto (tgt := 13) hx hb dX4_joined_103 (by decide) ?_
                exact ih_n_803 x_821 z_802 _ _ _  (by first | omega | decide | assumption) (by omega) hG (hP.sub [0, 1, 2, 3, 4, 5, 6, 7] rfl) (hD.sub [0, 1, 2, 3, 4, 5, 6, 7] (by decide) rfl) hS (lv_sub hl [0, 3, 4, 5, 6, 7] rfl)
              · skip
                have hG := hG.trans (if_neg c_820)
                have gc_820 := ti_nle c_820 rfl rfl
                refine lv_goto (tgt := 96) hx hb dX4_joined_86 (by decide) ?_
                refine lv_iload hx hb dX4_joined_96 (lv_at hl 0 rfl) ?_
                refine lv_istore (lv' := [(4, .int x_812), (7, .int x_812), (6, .int x_810), (5, .int z_801), (3, .int x_800), (0, .ref oL), (1, .ref oC), (2, .int p0)]) hx hb dX4_joined_98 hl (by decide) rfl (fun ls hl => ?_)
                obtain ⟨x_822, ex_822⟩ : ∃ z : Int32, z = z_801 + Int32.ofInt 1 := ⟨_, rfl⟩
                have hG := hG.trans (lt_eq ex_822)
                have vx_822 : x_822.toInt = z_801.toInt + 1 := by have q := ti_add (y := 1) ex_822 rfl kc_1 (by omega) (by omega); omega
                refine lv_iinc (v := x_822) (lv' := [(5, .int x_822), (4, .int x_812), (7, .int x_812), (6, .int x_810), (3, .int x_800), (0, .ref oL), (1, .ref oC), (2, .int p0)]) hx hb dX4_joined_100 hl (k := 3) rfl ex_822.symm (by decide) rfl (fun ls hl => ?_)
                refine lv_goto (tgt := 13) hx hb dX4_joined_103 (by decide) ?_
                exact ih_n_803 x_822 x_812 _ _ _  (by first | omega | decide | assumption) (by omega) hG (hP.sub [0, 1, 2, 3, 4, 5, 6, 7] rfl) (hD.sub [0, 1, 2, 3, 4, 5, 6, 7] (by decide) rfl) hS (lv_sub hl [0, 1, 4, 5, 6, 7] rfl)
        · skip
          have hG := hG.trans (if_pos c_813)
          have gc_813 := ti_eq c_813 rfl kc_3
          refine lv_iload hx hb dX4_joined_51 (lv_at hl 3 rfl) ?_
          refine lv_iload hx hb dX4_joined_53 (lv_at hl 0 rfl) ?_
          refine lv_aload_n hx hb dX4_joined_55 rfl (lv_at hl 6 rfl) ?_
          refine va_get (D := (dC, dI)) (ci := 1) (v := .ref rC_weights) (C := RX1) (T := TX1) (N := 19) hx hb hts inX1 hown hK hP 2 rfl rfl 11 (by decide) (hts _ wd_625) (fun _ h9 => h9) rfl dX4_joined_56 ?_
          refine lv_iload hx hb dX4_joined_59 (lv_at hl 1 rfl) ?_
          refine va_iald hx hb hK hP 6 4 rfl rfl (ti_in vx_810 (by omega) (by omega)) dX4_joined_61 ?_
          refine lv_topi (fun x_823 ex_823 => ?_)
          have hG := hG.trans (lt_eq ex_823)
          have rg_x_823 := fb_rng x_823
          have kx_823 : (fC_weights x_810.toNatClampNeg).toInt = x_823.toInt := by rw [ex_823]
          refine lv_imul hx hb dX4_joined_62 ?_
          refine lv_topi (fun x_824 ex_824 => ?_)
          have hG := hG.trans (lt_eq ex_824)
          have rg_x_824 := fb_rng x_824
          refine lv_iadd hx hb dX4_joined_63 ?_
          refine lv_topi (fun x_825 ex_825 => ?_)
          have hG := hG.trans (lt_eq ex_825)
          have rg_x_825 := fb_rng x_825
          refine lv_istore (lv' := [(4, .int x_825), (7, .int x_812), (6, .int x_810), (5, .int z_801), (3, .int x_800), (0, .ref oL), (1, .ref oC), (2, .int p0)]) hx hb dX4_joined_64 hl (by decide) rfl (fun ls hl => ?_)
          refine lv_goto (tgt := 100) hx hb dX4_joined_66 (by decide) ?_
          obtain ⟨x_826, ex_826⟩ : ∃ z : Int32, z = z_801 + Int32.ofInt 1 := ⟨_, rfl⟩
          have hG := hG.trans (lt_eq ex_826)
          have vx_826 : x_826.toInt = z_801.toInt + 1 := by have q := ti_add (y := 1) ex_826 rfl kc_1 (by omega) (by omega); omega
          refine lv_iinc (v := x_826) (lv' := [(5, .int x_826), (4, .int x_825), (7, .int x_812), (6, .int x_810), (3, .int x_800), (0, .ref oL), (1, .ref oC), (2, .int p0)]) hx hb dX4_joined_100 hl (k := 3) rfl ex_826.symm (by decide) rfl (fun ls hl => ?_)
          refine lv_goto (tgt := 13) hx hb dX4_joined_103 (by decide) ?_
          exact ih_n_803 x_826 x_825 _ _ _  (by first | omega | decide | assumption) (by omega) hG (hP.sub [0, 1, 2, 3, 4, 5, 6, 7] rfl) (hD.sub [0, 1, 2, 3, 4, 5, 6, 7] (by decide) rfl) hS (lv_sub hl [0, 1, 4, 5, 6, 7] rfl)
  exact key_n_803 (((2147483647 - (0 : Int32).toInt).toNat) + 1) 0 0 _ _ _  (by first | omega | decide | assumption | (have q0 := kc_0; have q1 := kc_1; omega)) (by omega) hG hP hD hS hl
set_option maxHeartbeats 4000000 in
set_option maxRecDepth 100000 in
theorem tX4_weighAll (l : Launch) (dC : Nat → ClassId) (dI : Nat → Nat → Nat) (sz : Nat) (oL : Nat) (rL_values : Nat) (fL_values : Nat → Int32) (kL_values : ClassId) (rL_supposed : Nat) (oC : Nat) (iC_nodes : Int32) (iC_words : Int32) (iC_chances : Int32) (iC_unsures : Int32) (iC_slips : Int32) (iC_throneNode : Int32) (iC_saidWorth : Int32) (iC_unit : Int32) (rC_kind : Nat) (fC_kind : Nat → Int32) (kC_kind : ClassId) (rC_parts : Nat) (fC_parts : Nat → Int32) (kC_parts : ClassId) (rC_partNodes : Nat) (fC_partNodes : Nat → Int32) (kC_partNodes : ClassId) (rC_weights : Nat) (fC_weights : Nat → Int32) (kC_weights : ClassId) (rC_weightSums : Nat) (fC_weightSums : Nat → Int32) (kC_weightSums : ClassId) (rC_toldWorths : Nat) (rC_steps : Nat) (rC_below : Nat) (rC_above : Nat) (rC_unsureWords : Nat) (rC_unsureWorths : Nat) (rW : Nat) (fW : Nat → Int32) (kW : ClassId) (b_iC_nodes : 0 ≤ iC_nodes.toInt ∧ iC_nodes.toInt ≤ 18) (b_iC_unsures : 0 ≤ iC_unsures.toInt ∧ iC_unsures.toInt ≤ 4) (b_iC_throneNode : (-1) ≤ iC_throneNode.toInt ∧ iC_throneNode.toInt ≤ 17) (a_fC_parts : ∀ j : Nat, j < 18 → 0 ≤ (fC_parts j).toInt ∧ (fC_parts j).toInt ≤ 4) (a_fC_partNodes : ∀ j : Nat, j < 72 → 0 ≤ (fC_partNodes j).toInt ∧ (fC_partNodes j).toInt ≤ 17)  : Met l yX4_weighAll (Cond.code yX4_weighAll cX4_weighAll 4 (some .int) :: wG) ({ frames := 2, cells := 0, slots := 0, locals := 48 }) (va_Pc [.ref oL, .ref oC, .ref rW] (Pw dC dI sz [(oc4 oL rL_values rL_supposed), (arI rL_values kL_values 18 fL_values), (oc1 oC iC_nodes iC_words iC_chances iC_unsures iC_slips iC_throneNode iC_saidWorth iC_unit rC_kind rC_parts rC_partNodes rC_weights rC_weightSums rC_toldWorths rC_steps rC_below rC_above rC_unsureWords rC_unsureWorths), (arI rC_kind kC_kind 18 fC_kind), (arI rC_parts kC_parts 18 fC_parts), (arI rC_partNodes kC_partNodes 72 fC_partNodes), (arI rC_weights kC_weights 72 fC_weights), (arI rC_weightSums kC_weightSums 18 fC_weightSums), (arI rW kW 18 fW)] [(kL_values, .int), (kC_kind, .int), (kC_parts, .int), (kC_partNodes, .int), (kC_weights, .int), (kC_weightSums, .int), (kW, .int)])) (va_Qi (fun (r : Int32) (u : Nat) => (True ∧ True) ∧ r = Int32.ofNat u) (fun (u : Nat) (t : State) => ∃ (nfL_values : Nat → Int32), (PX4_weighAll fL_values iC_nodes iC_throneNode iC_unit fC_kind fC_parts fC_partNodes fC_weights fC_weightSums fW = (Int32.ofNat u, nfL_values)) ∧ Bw dC dI (va_A [(oc4 oL rL_values rL_supposed), (arI rL_values kL_values 18 fL_values), (oc1 oC iC_nodes iC_words iC_chances iC_unsures iC_slips iC_throneNode iC_saidWorth iC_unit rC_kind rC_parts rC_partNodes rC_weights rC_weightSums rC_toldWorths rC_steps rC_below rC_above rC_unsureWords rC_unsureWorths), (arI rC_kind kC_kind 18 fC_kind), (arI rC_parts kC_parts 18 fC_parts), (arI rC_partNodes kC_partNodes 72 fC_partNodes), (arI rC_weights kC_weights 72 fC_weights), (arI rC_weightSums kC_weightSums 18 fC_weightSums), (arI rW kW 18 fW)] sz) [(oc4 oL rL_values rL_supposed), (arI rL_values kL_values 18 nfL_values), (oc1 oC iC_nodes iC_words iC_chances iC_unsures iC_slips iC_throneNode iC_saidWorth iC_unit rC_kind rC_parts rC_partNodes rC_weights rC_weightSums rC_toldWorths rC_steps rC_below rC_above rC_unsureWords rC_unsureWorths), (arI rC_kind kC_kind 18 fC_kind), (arI rC_parts kC_parts 18 fC_parts), (arI rC_partNodes kC_partNodes 72 fC_partNodes), (arI rC_weights kC_weights 72 fC_weights), (arI rC_weightSums kC_weightSums 18 fC_weightSums), (arI rW kW 18 fW)] [(kL_values, .int), (kC_kind, .int), (kC_parts, .int), (kC_partNodes, .int), (kC_weights, .int), (kC_weightSums, .int), (kW, .int)] t) (va_A [(oc4 oL rL_values rL_supposed), (arI rL_values kL_values 18 fL_values), (oc1 oC iC_nodes iC_words iC_chances iC_unsures iC_slips iC_throneNode iC_saidWorth iC_unit rC_kind rC_parts rC_partNodes rC_weights rC_weightSums rC_toldWorths rC_steps rC_below rC_above rC_unsureWords rC_unsureWorths), (arI rC_kind kC_kind 18 fC_kind), (arI rC_parts kC_parts 18 fC_parts), (arI rC_partNodes kC_partNodes 72 fC_partNodes), (arI rC_weights kC_weights 72 fC_weights), (arI rC_weightSums kC_weightSums 18 fC_weightSums), (arI rW kW 18 fW)] sz)) 0 0 (va_A [(oc4 oL rL_values rL_supposed), (arI rL_values kL_values 18 fL_values), (oc1 oC iC_nodes iC_words iC_chances iC_unsures iC_slips iC_throneNode iC_saidWorth iC_unit rC_kind rC_parts rC_partNodes rC_weights rC_weightSums rC_toldWorths rC_steps rC_below rC_above rC_unsureWords rC_unsureWorths), (arI rC_kind kC_kind 18 fC_kind), (arI rC_parts kC_parts 18 fC_parts), (arI rC_partNodes kC_partNodes 72 fC_partNodes), (arI rC_weights kC_weights 72 fC_weights), (arI rC_weightSums kC_weightSums 18 fC_weightSums), (arI rW kW 18 fW)] sz) := by
  refine Met.ofW (cc := cX4_weighAll) (maxL := 4) (ret := (some .int)) (by decide) rfl ?_
  intro p e s m args below meth c s₁ B hml hv
  obtain ⟨rfl, hsz, hP, hK, hD0, hE⟩ := hv
  have hx := B.exec
  have hb := B.bytes
  have hr := B.returns
  have hts : ∀ w ∈ wG, w.before ([.ref oL, .ref oC, .ref rW] : List Value).toArray s = true := fun w h => atoms_spec (ws := Cond.code yX4_weighAll cX4_weighAll 4 (some .int) :: wG) B.pre w (List.mem_cons_of_mem _ h)
  have hown : s.vm.findClass RX4 = some m.cls := findClass_of_methodNamed B.named
  have hlocks := B.notSynchronized
  subst hsz
  have hD := hD0.self (sz := s.heap.size)
  generalize hAe : va_A [(oc4 oL rL_values rL_supposed), (arI rL_values kL_values 18 fL_values), (oc1 oC iC_nodes iC_words iC_chances iC_unsures iC_slips iC_throneNode iC_saidWorth iC_unit rC_kind rC_parts rC_partNodes rC_weights rC_weightSums rC_toldWorths rC_steps rC_below rC_above rC_unsureWords rC_unsureWorths), (arI rC_kind kC_kind 18 fC_kind), (arI rC_parts kC_parts 18 fC_parts), (arI rC_partNodes kC_partNodes 72 fC_partNodes), (arI rC_weights kC_weights 72 fC_weights), (arI rC_weightSums kC_weightSums 18 fC_weightSums), (arI rW kW 18 fW)] s.heap.size = A at hD hE ⊢
  have hA : ∀ q : Nat, s.heap.size ≤ q → A q := fun q h => by rw [← hAe]; exact Or.inr h
  have hS : va_S A s.heap s.heap [] := va_S.rf
  have hl := lv_entry ([.ref oL, .ref oC, .ref rW]) (n := 4) (Nat.le_of_ble_eq_true rfl)
  rw [lg_entry_eq]
  generalize (lg_sl ([.ref oL, .ref oC, .ref rW]) ++ List.replicate (4 - (lg_sl ([.ref oL, .ref oC, .ref rW])).length) Slot.unset).toArray = ls at hl ⊢
  have hl : lv_has ls 4 [(0, .ref oL), (1, .ref oC), (2, .ref rW)] := hl
  have hG := PX4_weighAll_eq fL_values iC_nodes iC_throneNode iC_unit fC_kind fC_parts fC_partNodes fC_weights fC_weightSums fW
  refine lv_iconst (v := 0) hx hb dX4_weighAll_0 (by decide) ?_
  refine lv_istore_n (lv' := [(3, .int 0), (0, .ref oL), (1, .ref oC), (2, .ref rW)]) hx hb dX4_weighAll_1 rfl hl (by decide) rfl (fun ls hl => ?_)
  have hl := lv_sub hl (l' := [(3, .int 0), (0, .ref oL), (1, .ref oC), (2, .ref rW)]) [0, 1, 2, 3] rfl
  have key_n_852 : ∀ (n_852 : Nat) (z_850 : Int32) (f_851 : Nat → Int32) (H : Heap) (locs : List Loc) (ls : Array Slot), (0 ≤ z_850.toInt ∧ z_850.toInt ≤ 2147483647) → (2147483647 - z_850.toInt).toNat < n_852 → (PX4_weighAll fL_values iC_nodes iC_throneNode iC_unit fC_kind fC_parts fC_partNodes fC_weights fC_weightSums fW = HX4_weighAll_0 iC_nodes iC_throneNode iC_unit fC_kind fC_parts fC_partNodes fC_weights fC_weightSums fW n_852 z_850 f_851) → va_P (dC, dI) vwCl [(oc4 oL rL_values rL_supposed), (arI rL_values kL_values 18 f_851), (oc1 oC iC_nodes iC_words iC_chances iC_unsures iC_slips iC_throneNode iC_saidWorth iC_unit rC_kind rC_parts rC_partNodes rC_weights rC_weightSums rC_toldWorths rC_steps rC_below rC_above rC_unsureWords rC_unsureWorths), (arI rC_kind kC_kind 18 fC_kind), (arI rC_parts kC_parts 18 fC_parts), (arI rC_partNodes kC_partNodes 72 fC_partNodes), (arI rC_weights kC_weights 72 fC_weights), (arI rC_weightSums kC_weightSums 18 fC_weightSums), (arI rW kW 18 fW)] H → va_D A [(oc4 oL rL_values rL_supposed), (arI rL_values kL_values 18 f_851), (oc1 oC iC_nodes iC_words iC_chances iC_unsures iC_slips iC_throneNode iC_saidWorth iC_unit rC_kind rC_parts rC_partNodes rC_weights rC_weightSums rC_toldWorths rC_steps rC_below rC_above rC_unsureWords rC_unsureWorths), (arI rC_kind kC_kind 18 fC_kind), (arI rC_parts kC_parts 18 fC_parts), (arI rC_partNodes kC_partNodes 72 fC_partNodes), (arI rC_weights kC_weights 72 fC_weights), (arI rC_weightSums kC_weightSums 18 fC_weightSums), (arI rW kW 18 fW)] → va_S A s.heap H locs → lv_has ls 4 [(3, .int z_850), (0, .ref oL), (1, .ref oC), (2, .ref rW)] → W p l e (headSpec (Cond.code yX4_weighAll cX4_weighAll 4 (some .int) :: wG) ({ frames := 2, cells := 0, slots := 0, locals := 48 })).room s m ([.ref oL, .ref oC, .ref rW] : List Value).toArray below meth c H locs 0 0 (MQ below (va_Qi (fun (r : Int32) (u : Nat) => (True ∧ True) ∧ r = Int32.ofNat u) (fun (u : Nat) (t : State) => ∃ (nfL_values : Nat → Int32), (PX4_weighAll fL_values iC_nodes iC_throneNode iC_unit fC_kind fC_parts fC_partNodes fC_weights fC_weightSums fW = (Int32.ofNat u, nfL_values)) ∧ Bw dC dI A [(oc4 oL rL_values rL_supposed), (arI rL_values kL_values 18 nfL_values), (oc1 oC iC_nodes iC_words iC_chances iC_unsures iC_slips iC_throneNode iC_saidWorth iC_unit rC_kind rC_parts rC_partNodes rC_weights rC_weightSums rC_toldWorths rC_steps rC_below rC_above rC_unsureWords rC_unsureWorths), (arI rC_kind kC_kind 18 fC_kind), (arI rC_parts kC_parts 18 fC_parts), (arI rC_partNodes kC_partNodes 72 fC_partNodes), (arI rC_weights kC_weights 72 fC_weights), (arI rC_weightSums kC_weightSums 18 fC_weightSums), (arI rW kW 18 fW)] [(kL_values, .int), (kC_kind, .int), (kC_parts, .int), (kC_partNodes, .int), (kC_weights, .int), (kC_weightSums, .int), (kW, .int)] t) A) ([.ref oL, .ref oC, .ref rW] : List Value).toArray s 0 0 A) (F0 m 2 ls []) := by
    intro n_852
    induction n_852 with
    | zero => intro z_850 f_851 H locs ls hi0_n_852 hm; exact absurd hm (by omega)
    | succ n_852 ih_n_852 =>
      intro z_850 f_851 H locs ls hi0_n_852 hm hG hP hD hS hl
      have hG := hG.trans (HX4_weighAll_0_eq _ _ _ _ _ _ _ _ _ _ _ _)
      have rg_z_850 := fb_rng z_850
      refine lv_iload_n hx hb dX4_weighAll_2 rfl (lv_at hl 0 rfl) ?_
      refine lv_aload_n hx hb dX4_weighAll_3 rfl (lv_at hl 2 rfl) ?_
      refine va_get (D := (dC, dI)) (ci := 1) (v := .int iC_nodes) (C := RX1) (T := TX1) (N := 19) hx hb hts inX1 hown hK hP 2 rfl rfl 0 (by decide) (hts _ wd_616) (fun _ h9 => h9) rfl dX4_weighAll_4 ?_
      have rg_iC_nodes := fb_rng iC_nodes
      refine lv_icmp_ge (tgt := 48) hx hb dX4_weighAll_7 (by decide) (fun c_853 => ?_) (fun c_853 => ?_)
      · skip
        have hG := hG.trans (if_pos c_853)
        have gc_853 := ti_le c_853 rfl rfl
        refine lv_aload_n hx hb dX4_weighAll_48 rfl (lv_at hl 1 rfl) ?_
        refine lv_aload_n hx hb dX4_weighAll_49 rfl (lv_at hl 2 rfl) ?_
        have hFc := va_free (wc := [(oc4 oL rL_values rL_supposed), (arI rL_values kL_values 18 f_851), (oc1 oC iC_nodes iC_words iC_chances iC_unsures iC_slips iC_throneNode iC_saidWorth iC_unit rC_kind rC_parts rC_partNodes rC_weights rC_weightSums rC_toldWorths rC_steps rC_below rC_above rC_unsureWords rC_unsureWorths)]) hD hS hA [0, 1, 2] rfl
        refine va_calli (va_runV (As := [.ref oC]) (rest := []) ⟨hx, hb, hml, hown, hts⟩ (tX4_throneValue l dC dI _ oL rL_values f_851 kL_values rL_supposed oC iC_nodes iC_words iC_chances iC_unsures iC_slips iC_throneNode iC_saidWorth iC_unit rC_kind rC_parts rC_partNodes rC_weights rC_weightSums rC_toldWorths rC_steps rC_below rC_above rC_unsureWords rC_unsureWorths (by first | exact b_iC_nodes | omega | decide) (by first | exact b_iC_unsures | omega | decide) (by first | exact b_iC_throneNode | omega | decide)) (cwV 1 hts (wd_V wd_629 wd_630 wd_631 wd_37 (wd_c wd_632)) rfl rfl rfl (by decide +kernel) ⟨Nat.le_of_ble_eq_true rfl, Nat.le_of_ble_eq_true rfl⟩) ⟨Pw.fb, va_recv hK hP (ci := 4) (q0 := 0) rfl rfl, fun U hU hW => Pw.to (hP.sub [0, 1, 2] rfl) (hD.sub [0, 1, 2] (by decide) rfl) (hK.sub [0] rfl) hE hS hFc hU hW⟩ rfl rfl hl.1 rfl (lv_room (Nat.le_of_ble_eq_true rfl)) dX4_weighAll_50 ⟨Nat.le_of_ble_eq_true rfl, Nat.le_of_ble_eq_true rfl⟩) hS (fun q _ h => hFc q h) hFc (fun r u t H locs ht hvm hw hB hz1 hk1 hS => ?_)
        have hru9 := hw.2
        have hw := hw.1
        obtain ⟨hP, hD, hK⟩ := Bw.go (ws' := [(arI rC_kind kC_kind 18 fC_kind), (arI rC_parts kC_parts 18 fC_parts), (arI rC_partNodes kC_partNodes 72 fC_partNodes), (arI rC_weights kC_weights 72 fC_weights), (arI rC_weightSums kC_weightSums 18 fC_weightSums), (arI rW kW 18 fW), (oc4 oL rL_values rL_supposed), (arI rL_values kL_values 18 f_851), (oc1 oC iC_nodes iC_words iC_chances iC_unsures iC_slips iC_throneNode iC_saidWorth iC_unit rC_kind rC_parts rC_partNodes rC_weights rC_weightSums rC_toldWorths rC_steps rC_below rC_above rC_unsureWords rC_unsureWorths)]) (tys' := [(kC_kind, .int), (kC_parts, .int), (kC_partNodes, .int), (kC_weights, .int), (kC_weightSums, .int), (kW, .int), (kL_values, .int)]) hB rfl ht hvm hP hD hK [0, 1, 2] [3, 4, 5, 6, 7, 8] rfl (by decide) (by decide) [1, 2, 3, 4, 5, 6] hk1 hFc rfl rfl rfl
        clear hz1 hk1 hvm ht hB
        obtain ⟨x_854, rfl⟩ : ∃ z, z = r := ⟨_, rfl⟩
        have hG := hG.trans (lt_eq hru9.symm)
        have rg_x_854 := fb_rng x_854
        exact W.iret hx hb hr (fun t ht hW => ⟨⟨_, (cI x_854), rfl, ⟨⟨trivial, trivial⟩, (cI_of x_854)⟩, ⟨f_851, (cI_tup hG), Bw.to (hP.sub [6, 7, 8, 0, 1, 2, 3, 4, 5] rfl) (hD.sub [6, 7, 8, 0, 1, 2, 3, 4, 5] (by decide) rfl) (hK.sub [6, 0, 1, 2, 3, 4, 5] rfl) ht hW⟩⟩, hS.F ht⟩) hS.2.2 dX4_weighAll_53
      · skip
        have hG := hG.trans (if_neg c_853)
        have gc_853 := ti_nle c_853 rfl rfl
        refine lv_aload_n hx hb dX4_weighAll_10 rfl (lv_at hl 1 rfl) ?_
        refine va_get (D := (dC, dI)) (ci := 4) (v := .ref rL_values) (C := RX4) (T := TX4) (N := 2) hx hb hts inX4 hown hK hP 0 rfl rfl 0 (by decide) (hts _ wd_146) (fun _ h9 => h9) rfl dX4_weighAll_11 ?_
        refine lv_iload_n hx hb dX4_weighAll_14 rfl (lv_at hl 0 rfl) ?_
        refine lv_aload_n hx hb dX4_weighAll_15 rfl (lv_at hl 2 rfl) ?_
        refine va_get (D := (dC, dI)) (ci := 1) (v := .ref rC_kind) (C := RX1) (T := TX1) (N := 19) hx hb hts inX1 hown hK hP 2 rfl rfl 8 (by decide) (hts _ wd_617) (fun _ h9 => h9) rfl dX4_weighAll_16 ?_
        refine lv_iload_n hx hb dX4_weighAll_19 rfl (lv_at hl 0 rfl) ?_
        refine va_iald hx hb hK hP 3 1 rfl rfl (ti_in rfl (by omega) (by omega)) dX4_weighAll_20 ?_
        refine lv_topi (fun x_855 ex_855 => ?_)
        have hG := hG.trans (lt_eq ex_855)
        have rg_x_855 := fb_rng x_855
        have kx_855 : (fC_kind z_850.toNatClampNeg).toInt = x_855.toInt := by rw [ex_855]
        refine lv_if_ne (tgt := 35) hx hb dX4_weighAll_21 (by decide) (fun c_856 => ?_) (fun c_856 => ?_)
        · skip
          have hG := hG.trans (if_neg c_856)
          have gc_856 := ti_ne c_856 rfl kc_0
          refine lv_aload_n hx hb dX4_weighAll_35 rfl (lv_at hl 1 rfl) ?_
          refine lv_aload_n hx hb dX4_weighAll_36 rfl (lv_at hl 2 rfl) ?_
          refine lv_iload_n hx hb dX4_weighAll_37 rfl (lv_at hl 0 rfl) ?_
          have hFc := va_free (wc := [(oc4 oL rL_values rL_supposed), (arI rL_values kL_values 18 f_851), (oc1 oC iC_nodes iC_words iC_chances iC_unsures iC_slips iC_throneNode iC_saidWorth iC_unit rC_kind rC_parts rC_partNodes rC_weights rC_weightSums rC_toldWorths rC_steps rC_below rC_above rC_unsureWords rC_unsureWorths), (arI rC_kind kC_kind 18 fC_kind), (arI rC_parts kC_parts 18 fC_parts), (arI rC_partNodes kC_partNodes 72 fC_partNodes), (arI rC_weights kC_weights 72 fC_weights), (arI rC_weightSums kC_weightSums 18 fC_weightSums)]) hD hS hA [0, 1, 2, 3, 4, 5, 6, 7] rfl
          refine va_calli (va_runV (As := [.ref oC, .int z_850]) (rest := [.int z_850, .ref rL_values]) ⟨hx, hb, hml, hown, hts⟩ (tX4_joined l dC dI _ oL rL_values f_851 kL_values rL_supposed oC iC_nodes iC_words iC_chances iC_unsures iC_slips iC_throneNode iC_saidWorth iC_unit rC_kind fC_kind kC_kind rC_parts fC_parts kC_parts rC_partNodes fC_partNodes kC_partNodes rC_weights fC_weights kC_weights rC_weightSums fC_weightSums kC_weightSums rC_toldWorths rC_steps rC_below rC_above rC_unsureWords rC_unsureWorths z_850 (by first | exact b_iC_nodes | omega | decide) (by first | exact b_iC_unsures | omega | decide) (by first | exact b_iC_throneNode | omega | decide) a_fC_parts a_fC_partNodes (by first | omega | decide | assumption | (have q0 := kc_0; have q1 := kc_1; omega) | (intro h; exact absurd h (by decide)))) (cwV 2 hts (wd_V wd_619 wd_620 wd_621 wd_37 (wd_c wd_622)) rfl rfl rfl (by decide +kernel) ⟨Nat.le_of_ble_eq_true rfl, Nat.le_of_ble_eq_true rfl⟩) ⟨Pw.fb, va_recv hK hP (ci := 4) (q0 := 0) rfl rfl, fun U hU hW => Pw.to (hP.sub [0, 1, 2, 3, 4, 5, 6, 7] rfl) (hD.sub [0, 1, 2, 3, 4, 5, 6, 7] (by decide) rfl) (hK.sub [0, 1, 2, 3, 4, 5] rfl) hE hS hFc hU hW⟩ rfl rfl hl.1 rfl (lv_room (Nat.le_of_ble_eq_true rfl)) dX4_weighAll_38 ⟨Nat.le_of_ble_eq_true rfl, Nat.le_of_ble_eq_true rfl⟩) hS (fun q _ h => hFc q h) hFc (fun r u t H locs ht hvm hw hB hz1 hk1 hS => ?_)
          have hru9 := hw.2
          have hw := hw.1
          obtain ⟨hP, hD, hK⟩ := Bw.go (ws' := [(arI rW kW 18 fW), (oc4 oL rL_values rL_supposed), (arI rL_values kL_values 18 f_851), (oc1 oC iC_nodes iC_words iC_chances iC_unsures iC_slips iC_throneNode iC_saidWorth iC_unit rC_kind rC_parts rC_partNodes rC_weights rC_weightSums rC_toldWorths rC_steps rC_below rC_above rC_unsureWords rC_unsureWorths), (arI rC_kind kC_kind 18 fC_kind), (arI rC_parts kC_parts 18 fC_parts), (arI rC_partNodes kC_partNodes 72 fC_partNodes), (arI rC_weights kC_weights 72 fC_weights), (arI rC_weightSums kC_weightSums 18 fC_weightSums)]) (tys' := [(kW, .int), (kL_values, .int), (kC_kind, .int), (kC_parts, .int), (kC_partNodes, .int), (kC_weights, .int), (kC_weightSums, .int)]) hB rfl ht hvm hP hD hK [0, 1, 2, 3, 4, 5, 6, 7] [8] rfl (by decide) (by decide) [6] hk1 hFc rfl rfl rfl
          clear hz1 hk1 hvm ht hB
          obtain ⟨x_857, rfl⟩ : ∃ z, z = r := ⟨_, rfl⟩
          have hG := hG.trans (lt_eq hru9.symm)
          have rg_x_857 := fb_rng x_857
          refine va_iast hx hb hK hP hD hS 2 1 rfl rfl (ti_in rfl (by omega) (by omega)) dX4_weighAll_41 (fun H locs hP hD hS => ?_)
          obtain ⟨f_859, ef_859⟩ : ∃ g : Nat → Int32, g = upd f_851 z_850.toNatClampNeg x_857 := ⟨_, rfl⟩
          rw [← ef_859] at hP hD
          have hG := hG.trans (lt_eq ef_859)
          obtain ⟨hP, hD⟩ := wl2 (ws' := [(arI rW kW 18 fW), (oc4 oL rL_values rL_supposed), (arI rL_values kL_values 18 f_859), (oc1 oC iC_nodes iC_words iC_chances iC_unsures iC_slips iC_throneNode iC_saidWorth iC_unit rC_kind rC_parts rC_partNodes rC_weights rC_weightSums rC_toldWorths rC_steps rC_below rC_above rC_unsureWords rC_unsureWorths), (arI rC_kind kC_kind 18 fC_kind), (arI rC_parts kC_parts 18 fC_parts), (arI rC_partNodes kC_partNodes 72 fC_partNodes), (arI rC_weights kC_weights 72 fC_weights), (arI rC_weightSums kC_weightSums 18 fC_weightSums)]) hP hD rfl
          obtain ⟨x_860, ex_860⟩ : ∃ z : Int32, z = z_850 + Int32.ofInt 1 := ⟨_, rfl⟩
          have hG := hG.trans (lt_eq ex_860)
          have vx_860 : x_860.toInt = z_850.toInt + 1 := by have q := ti_add (y := 1) ex_860 rfl kc_1 (by omega) (by omega); omega
          refine lv_iinc (v := x_860) (lv' := [(3, .int x_860), (0, .ref oL), (1, .ref oC), (2, .ref rW)]) hx hb dX4_weighAll_42 hl (k := 0) rfl ex_860.symm (by decide) rfl (fun ls hl => ?_)
          refine lv_goto (tgt := 2) hx hb dX4_weighAll_45 (by decide) ?_
          exact ih_n_852 x_860 f_859 _ _ _  (by first | omega | decide | assumption) (by omega) hG (hP.sub [1, 2, 3, 4, 5, 6, 7, 8, 0] rfl) (hD.sub [1, 2, 3, 4, 5, 6, 7, 8, 0] (by decide) rfl) hS (lv_sub hl [0, 1, 2, 3] rfl)
        · skip
          have hG := hG.trans (if_pos c_856)
          have gc_856 := ti_eq c_856 rfl kc_0
          refine lv_aload_n hx hb dX4_weighAll_24 rfl (lv_at hl 3 rfl) ?_
          refine lv_iload_n hx hb dX4_weighAll_25 rfl (lv_at hl 0 rfl) ?_
          refine va_iald hx hb hK hP 8 6 rfl rfl (ti_in rfl (by omega) (by omega)) dX4_weighAll_26 ?_
          refine lv_topi (fun x_861 ex_861 => ?_)
          have hG := hG.trans (lt_eq ex_861)
          have rg_x_861 := fb_rng x_861
          have kx_861 : (fW z_850.toNatClampNeg).toInt = x_861.toInt := by rw [ex_861]
          refine lv_aload_n hx hb dX4_weighAll_27 rfl (lv_at hl 2 rfl) ?_
          refine va_get (D := (dC, dI)) (ci := 1) (v := .int iC_unit) (C := RX1) (T := TX1) (N := 19) hx hb hts inX1 hown hK hP 2 rfl rfl 7 (by decide) (hts _ wd_618) (fun _ h9 => h9) rfl dX4_weighAll_28 ?_
          have rg_iC_unit := fb_rng iC_unit
          refine lv_imul hx hb dX4_weighAll_31 ?_
          refine lv_topi (fun x_862 ex_862 => ?_)
          have hG := hG.trans (lt_eq ex_862)
          have rg_x_862 := fb_rng x_862
          refine lv_goto (tgt := 41) hx hb dX4_weighAll_32 (by decide) ?_
          refine va_iast hx hb hK hP hD hS 1 0 rfl rfl (ti_in rfl (by omega) (by omega)) dX4_weighAll_41 (fun H locs hP hD hS => ?_)
          obtain ⟨f_864, ef_864⟩ : ∃ g : Nat → Int32, g = upd f_851 z_850.toNatClampNeg x_862 := ⟨_, rfl⟩
          rw [← ef_864] at hP hD
          have hG := hG.trans (lt_eq ef_864)
          obtain ⟨hP, hD⟩ := wl2 (ws' := [(oc4 oL rL_values rL_supposed), (arI rL_values kL_values 18 f_864), (oc1 oC iC_nodes iC_words iC_chances iC_unsures iC_slips iC_throneNode iC_saidWorth iC_unit rC_kind rC_parts rC_partNodes rC_weights rC_weightSums rC_toldWorths rC_steps rC_below rC_above rC_unsureWords rC_unsureWorths), (arI rC_kind kC_kind 18 fC_kind), (arI rC_parts kC_parts 18 fC_parts), (arI rC_partNodes kC_partNodes 72 fC_partNodes), (arI rC_weights kC_weights 72 fC_weights), (arI rC_weightSums kC_weightSums 18 fC_weightSums), (arI rW kW 18 fW)]) hP hD rfl
          obtain ⟨x_865, ex_865⟩ : ∃ z : Int32, z = z_850 + Int32.ofInt 1 := ⟨_, rfl⟩
          have hG := hG.trans (lt_eq ex_865)
          have vx_865 : x_865.toInt = z_850.toInt + 1 := by have q := ti_add (y := 1) ex_865 rfl kc_1 (by omega) (by omega); omega
          refine lv_iinc (v := x_865) (lv' := [(3, .int x_865), (0, .ref oL), (1, .ref oC), (2, .ref rW)]) hx hb dX4_weighAll_42 hl (k := 0) rfl ex_865.symm (by decide) rfl (fun ls hl => ?_)
          refine lv_goto (tgt := 2) hx hb dX4_weighAll_45 (by decide) ?_
          exact ih_n_852 x_865 f_864 _ _ _  (by first | omega | decide | assumption) (by omega) hG (hP.sub [0, 1, 2, 3, 4, 5, 6, 7, 8] rfl) (hD.sub [0, 1, 2, 3, 4, 5, 6, 7, 8] (by decide) rfl) hS (lv_sub hl [0, 1, 2, 3] rfl)
  exact key_n_852 (((2147483647 - (0 : Int32).toInt).toNat) + 1) 0 fL_values _ _ _  (by first | omega | decide | assumption | (have q0 := kc_0; have q1 := kc_1; omega)) (by omega) hG hP hD hS hl
set_option maxHeartbeats 4000000 in
set_option maxRecDepth 100000 in
theorem tX4_throneByWord (l : Launch) (dC : Nat → ClassId) (dI : Nat → Nat → Nat) (sz : Nat) (oL : Nat) (rL_values : Nat) (fL_values : Nat → Int32) (kL_values : ClassId) (rL_supposed : Nat) (fL_supposed : Nat → Int32) (kL_supposed : ClassId) (oC : Nat) (iC_nodes : Int32) (iC_words : Int32) (iC_chances : Int32) (iC_unsures : Int32) (iC_slips : Int32) (iC_throneNode : Int32) (iC_saidWorth : Int32) (iC_unit : Int32) (rC_kind : Nat) (fC_kind : Nat → Int32) (kC_kind : ClassId) (rC_parts : Nat) (fC_parts : Nat → Int32) (kC_parts : ClassId) (rC_partNodes : Nat) (fC_partNodes : Nat → Int32) (kC_partNodes : ClassId) (rC_weights : Nat) (fC_weights : Nat → Int32) (kC_weights : ClassId) (rC_weightSums : Nat) (fC_weightSums : Nat → Int32) (kC_weightSums : ClassId) (rC_toldWorths : Nat) (rC_steps : Nat) (rC_below : Nat) (rC_above : Nat) (rC_unsureWords : Nat) (rC_unsureWorths : Nat) (oS : Nat) (rS_worths : Nat) (fS_worths : Nat → Int32) (kS_worths : ClassId) (rS_order : Nat) (rS_left : Nat) (p0 : Int32) (p1 : Int32) (b_iC_nodes : 0 ≤ iC_nodes.toInt ∧ iC_nodes.toInt ≤ 18) (b_iC_unsures : 0 ≤ iC_unsures.toInt ∧ iC_unsures.toInt ≤ 4) (b_iC_throneNode : (-1) ≤ iC_throneNode.toInt ∧ iC_throneNode.toInt ≤ 17) (a_fC_parts : ∀ j : Nat, j < 18 → 0 ≤ (fC_parts j).toInt ∧ (fC_parts j).toInt ≤ 4) (a_fC_partNodes : ∀ j : Nat, j < 72 → 0 ≤ (fC_partNodes j).toInt ∧ (fC_partNodes j).toInt ≤ 17)  : Met l yX4_throneByWord (Cond.code yX4_throneByWord cX4_throneByWord 5 (some .int) :: wG) ({ frames := 3, cells := 0, slots := 0, locals := 71 }) (va_Pc [.ref oL, .ref oC, .ref oS, .int p0, .int p1] (Pw dC dI sz [(oc4 oL rL_values rL_supposed), (arI rL_values kL_values 18 fL_values), (arI rL_supposed kL_supposed 18 fL_supposed), (oc1 oC iC_nodes iC_words iC_chances iC_unsures iC_slips iC_throneNode iC_saidWorth iC_unit rC_kind rC_parts rC_partNodes rC_weights rC_weightSums rC_toldWorths rC_steps rC_below rC_above rC_unsureWords rC_unsureWorths), (arI rC_kind kC_kind 18 fC_kind), (arI rC_parts kC_parts 18 fC_parts), (arI rC_partNodes kC_partNodes 72 fC_partNodes), (arI rC_weights kC_weights 72 fC_weights), (arI rC_weightSums kC_weightSums 18 fC_weightSums), (oc5 oS rS_worths rS_order rS_left), (arI rS_worths kS_worths 18 fS_worths)] [(kL_values, .int), (kL_supposed, .int), (kC_kind, .int), (kC_parts, .int), (kC_partNodes, .int), (kC_weights, .int), (kC_weightSums, .int), (kS_worths, .int)])) (va_Qi (fun (r : Int32) (u : Nat) => (True ∧ True) ∧ r = Int32.ofNat u) (fun (u : Nat) (t : State) => ∃ (nfL_values : Nat → Int32) (nfL_supposed : Nat → Int32), (PX4_throneByWord fL_values fL_supposed iC_nodes iC_throneNode iC_unit fC_kind fC_parts fC_partNodes fC_weights fC_weightSums fS_worths p0 p1 = (Int32.ofNat u, nfL_values, nfL_supposed)) ∧ Bw dC dI (va_A [(oc4 oL rL_values rL_supposed), (arI rL_values kL_values 18 fL_values), (arI rL_supposed kL_supposed 18 fL_supposed), (oc1 oC iC_nodes iC_words iC_chances iC_unsures iC_slips iC_throneNode iC_saidWorth iC_unit rC_kind rC_parts rC_partNodes rC_weights rC_weightSums rC_toldWorths rC_steps rC_below rC_above rC_unsureWords rC_unsureWorths), (arI rC_kind kC_kind 18 fC_kind), (arI rC_parts kC_parts 18 fC_parts), (arI rC_partNodes kC_partNodes 72 fC_partNodes), (arI rC_weights kC_weights 72 fC_weights), (arI rC_weightSums kC_weightSums 18 fC_weightSums), (oc5 oS rS_worths rS_order rS_left), (arI rS_worths kS_worths 18 fS_worths)] sz) [(oc4 oL rL_values rL_supposed), (arI rL_values kL_values 18 nfL_values), (arI rL_supposed kL_supposed 18 nfL_supposed), (oc1 oC iC_nodes iC_words iC_chances iC_unsures iC_slips iC_throneNode iC_saidWorth iC_unit rC_kind rC_parts rC_partNodes rC_weights rC_weightSums rC_toldWorths rC_steps rC_below rC_above rC_unsureWords rC_unsureWorths), (arI rC_kind kC_kind 18 fC_kind), (arI rC_parts kC_parts 18 fC_parts), (arI rC_partNodes kC_partNodes 72 fC_partNodes), (arI rC_weights kC_weights 72 fC_weights), (arI rC_weightSums kC_weightSums 18 fC_weightSums), (oc5 oS rS_worths rS_order rS_left), (arI rS_worths kS_worths 18 fS_worths)] [(kL_values, .int), (kL_supposed, .int), (kC_kind, .int), (kC_parts, .int), (kC_partNodes, .int), (kC_weights, .int), (kC_weightSums, .int), (kS_worths, .int)] t) (va_A [(oc4 oL rL_values rL_supposed), (arI rL_values kL_values 18 fL_values), (arI rL_supposed kL_supposed 18 fL_supposed), (oc1 oC iC_nodes iC_words iC_chances iC_unsures iC_slips iC_throneNode iC_saidWorth iC_unit rC_kind rC_parts rC_partNodes rC_weights rC_weightSums rC_toldWorths rC_steps rC_below rC_above rC_unsureWords rC_unsureWorths), (arI rC_kind kC_kind 18 fC_kind), (arI rC_parts kC_parts 18 fC_parts), (arI rC_partNodes kC_partNodes 72 fC_partNodes), (arI rC_weights kC_weights 72 fC_weights), (arI rC_weightSums kC_weightSums 18 fC_weightSums), (oc5 oS rS_worths rS_order rS_left), (arI rS_worths kS_worths 18 fS_worths)] sz)) 0 0 (va_A [(oc4 oL rL_values rL_supposed), (arI rL_values kL_values 18 fL_values), (arI rL_supposed kL_supposed 18 fL_supposed), (oc1 oC iC_nodes iC_words iC_chances iC_unsures iC_slips iC_throneNode iC_saidWorth iC_unit rC_kind rC_parts rC_partNodes rC_weights rC_weightSums rC_toldWorths rC_steps rC_below rC_above rC_unsureWords rC_unsureWorths), (arI rC_kind kC_kind 18 fC_kind), (arI rC_parts kC_parts 18 fC_parts), (arI rC_partNodes kC_partNodes 72 fC_partNodes), (arI rC_weights kC_weights 72 fC_weights), (arI rC_weightSums kC_weightSums 18 fC_weightSums), (oc5 oS rS_worths rS_order rS_left), (arI rS_worths kS_worths 18 fS_worths)] sz) := by
  refine Met.ofW (cc := cX4_throneByWord) (maxL := 5) (ret := (some .int)) (by decide) rfl ?_
  intro p e s m args below meth c s₁ B hml hv
  obtain ⟨rfl, hsz, hP, hK, hD0, hE⟩ := hv
  have hx := B.exec
  have hb := B.bytes
  have hr := B.returns
  have hts : ∀ w ∈ wG, w.before ([.ref oL, .ref oC, .ref oS, .int p0, .int p1] : List Value).toArray s = true := fun w h => atoms_spec (ws := Cond.code yX4_throneByWord cX4_throneByWord 5 (some .int) :: wG) B.pre w (List.mem_cons_of_mem _ h)
  have hown : s.vm.findClass RX4 = some m.cls := findClass_of_methodNamed B.named
  have hlocks := B.notSynchronized
  subst hsz
  have hD := hD0.self (sz := s.heap.size)
  generalize hAe : va_A [(oc4 oL rL_values rL_supposed), (arI rL_values kL_values 18 fL_values), (arI rL_supposed kL_supposed 18 fL_supposed), (oc1 oC iC_nodes iC_words iC_chances iC_unsures iC_slips iC_throneNode iC_saidWorth iC_unit rC_kind rC_parts rC_partNodes rC_weights rC_weightSums rC_toldWorths rC_steps rC_below rC_above rC_unsureWords rC_unsureWorths), (arI rC_kind kC_kind 18 fC_kind), (arI rC_parts kC_parts 18 fC_parts), (arI rC_partNodes kC_partNodes 72 fC_partNodes), (arI rC_weights kC_weights 72 fC_weights), (arI rC_weightSums kC_weightSums 18 fC_weightSums), (oc5 oS rS_worths rS_order rS_left), (arI rS_worths kS_worths 18 fS_worths)] s.heap.size = A at hD hE ⊢
  have hA : ∀ q : Nat, s.heap.size ≤ q → A q := fun q h => by rw [← hAe]; exact Or.inr h
  have hS : va_S A s.heap s.heap [] := va_S.rf
  have hl := lv_entry ([.ref oL, .ref oC, .ref oS, .int p0, .int p1]) (n := 5) (Nat.le_of_ble_eq_true rfl)
  rw [lg_entry_eq]
  generalize (lg_sl ([.ref oL, .ref oC, .ref oS, .int p0, .int p1]) ++ List.replicate (5 - (lg_sl ([.ref oL, .ref oC, .ref oS, .int p0, .int p1])).length) Slot.unset).toArray = ls at hl ⊢
  have hl : lv_has ls 5 [(0, .ref oL), (1, .ref oC), (2, .ref oS), (3, .int p0), (4, .int p1)] := hl
  have hG := PX4_throneByWord_eq fL_values fL_supposed iC_nodes iC_throneNode iC_unit fC_kind fC_parts fC_partNodes fC_weights fC_weightSums fS_worths p0 p1
  refine lv_aload_n hx hb dX4_throneByWord_0 rfl (lv_at hl 2 rfl) ?_
  refine va_get (D := (dC, dI)) (ci := 5) (v := .ref rS_worths) (C := RX5) (T := TX5) (N := 3) hx hb hts inX5 hown hK hP 9 rfl rfl 0 (by decide) (hts _ wd_948) (fun _ h9 => h9) rfl dX4_throneByWord_1 ?_
  refine lv_iconst (v := 0) hx hb dX4_throneByWord_4 (by decide) ?_
  refine lv_aload_n hx hb dX4_throneByWord_5 rfl (lv_at hl 0 rfl) ?_
  refine va_get (D := (dC, dI)) (ci := 4) (v := .ref rL_supposed) (C := RX4) (T := TX4) (N := 2) hx hb hts inX4 hown hK hP 0 rfl rfl 1 (by decide) (hts _ wd_147) (fun _ h9 => h9) rfl dX4_throneByWord_6 ?_
  refine lv_iconst (v := 0) hx hb dX4_throneByWord_9 (by decide) ?_
  refine lv_bipush (v := 18) hx hb dX4_throneByWord_10 (by decide) ?_
  refine vz_copyE hx hb (hml.trans hl.1.symm) hown (hts _ wd_1134) (hts _ wd_1016) (hts _ wd_1017) (hts _ wd_1018) hK hP hD hS 10 2 7 1 rfl rfl rfl rfl (k := 18) (by decide) (by decide) (Nat.le_of_ble_eq_true rfl) (Nat.le_of_ble_eq_true (by decide +kernel)) dX4_throneByWord_12 (fun H locs f_875 ef_875 c_f_875 hP hD hS => ?_)
  have hG := hG.trans (lt_eq ef_875)
  obtain ⟨hP, hD⟩ := wl2 (ws' := [(oc4 oL rL_values rL_supposed), (arI rL_values kL_values 18 fL_values), (arI rL_supposed kL_supposed 18 f_875), (oc1 oC iC_nodes iC_words iC_chances iC_unsures iC_slips iC_throneNode iC_saidWorth iC_unit rC_kind rC_parts rC_partNodes rC_weights rC_weightSums rC_toldWorths rC_steps rC_below rC_above rC_unsureWords rC_unsureWorths), (arI rC_kind kC_kind 18 fC_kind), (arI rC_parts kC_parts 18 fC_parts), (arI rC_partNodes kC_partNodes 72 fC_partNodes), (arI rC_weights kC_weights 72 fC_weights), (arI rC_weightSums kC_weightSums 18 fC_weightSums), (oc5 oS rS_worths rS_order rS_left), (arI rS_worths kS_worths 18 fS_worths)]) hP hD rfl
  refine lv_aload_n hx hb dX4_throneByWord_15 rfl (lv_at hl 1 rfl) ?_
  refine lv_iload_n hx hb dX4_throneByWord_16 rfl (lv_at hl 3 rfl) ?_
  have hFc := va_free (wc := [(oc1 oC iC_nodes iC_words iC_chances iC_unsures iC_slips iC_throneNode iC_saidWorth iC_unit rC_kind rC_parts rC_partNodes rC_weights rC_weightSums rC_toldWorths rC_steps rC_below rC_above rC_unsureWords rC_unsureWorths)]) hD hS hA [3] rfl
  refine va_calli (va_runV (As := [.int p0]) (rest := []) ⟨hx, hb, hml, hown, hts⟩ (tX1_hasNode l dC dI _ oC iC_nodes iC_words iC_chances iC_unsures iC_slips iC_throneNode iC_saidWorth iC_unit rC_kind rC_parts rC_partNodes rC_weights rC_weightSums rC_toldWorths rC_steps rC_below rC_above rC_unsureWords rC_unsureWorths p0 (by first | exact b_iC_nodes | omega | decide) (by first | exact b_iC_unsures | omega | decide) (by first | exact b_iC_throneNode | omega | decide)) (cwV 1 hts (wd_V wd_634 wd_326 wd_327 wd_19 (wd_c wd_328)) rfl rfl rfl (by decide +kernel) ⟨Nat.le_of_ble_eq_true rfl, Nat.le_of_ble_eq_true rfl⟩) ⟨Pw.fb, va_recv hK hP (ci := 1) (q0 := 3) rfl rfl, fun U hU hW => Pw.to (hP.sub [3] rfl) (hD.sub [3] (by decide) rfl) (hK.sub [] rfl) hE hS hFc hU hW⟩ rfl rfl hl.1 rfl (lv_room (Nat.le_of_ble_eq_true rfl)) dX4_throneByWord_17 ⟨Nat.le_of_ble_eq_true rfl, Nat.le_of_ble_eq_true rfl⟩) hS (fun q _ h => hFc q h) hFc (fun r u t H locs ht hvm hw hB hz1 hk1 hS => ?_)
  have hru9 := hw.2
  have hw := hw.1
  obtain ⟨hP, hD, hK⟩ := Bw.go (ws' := [(oc4 oL rL_values rL_supposed), (arI rL_values kL_values 18 fL_values), (arI rL_supposed kL_supposed 18 f_875), (arI rC_kind kC_kind 18 fC_kind), (arI rC_parts kC_parts 18 fC_parts), (arI rC_partNodes kC_partNodes 72 fC_partNodes), (arI rC_weights kC_weights 72 fC_weights), (arI rC_weightSums kC_weightSums 18 fC_weightSums), (oc5 oS rS_worths rS_order rS_left), (arI rS_worths kS_worths 18 fS_worths), (oc1 oC iC_nodes iC_words iC_chances iC_unsures iC_slips iC_throneNode iC_saidWorth iC_unit rC_kind rC_parts rC_partNodes rC_weights rC_weightSums rC_toldWorths rC_steps rC_below rC_above rC_unsureWords rC_unsureWorths)]) (tys' := [(kL_values, .int), (kL_supposed, .int), (kC_kind, .int), (kC_parts, .int), (kC_partNodes, .int), (kC_weights, .int), (kC_weightSums, .int), (kS_worths, .int)]) hB rfl ht hvm hP hD hK [3] [0, 1, 2, 4, 5, 6, 7, 8, 9, 10] rfl (by decide) (by decide) [0, 1, 2, 3, 4, 5, 6, 7] hk1 hFc rfl rfl rfl
  clear hz1 hk1 hvm ht hB
  rcases hw.2 with ⟨rfl, hc_876⟩ | ⟨rfl, hc_876⟩
  · skip
    have hG := hG.trans (lt_eq hru9.symm)
    have hG := hG.trans (if_pos rfl)
    refine lv_if_eq (tgt := 31) hx hb dX4_throneByWord_20 (by decide) (fun c => absurd c (by decide)) (fun _ => ?_)
    refine lv_aload_n hx hb dX4_throneByWord_23 rfl (lv_at hl 0 rfl) ?_
    refine va_get (D := (dC, dI)) (ci := 4) (v := .ref rL_supposed) (C := RX4) (T := TX4) (N := 2) hx hb hts inX4 hown hK hP 0 rfl rfl 1 (by decide) (hts _ wd_147) (fun _ h9 => h9) rfl dX4_throneByWord_24 ?_
    refine lv_iload_n hx hb dX4_throneByWord_27 rfl (lv_at hl 3 rfl) ?_
    refine lv_iload hx hb dX4_throneByWord_28 (lv_at hl 4 rfl) ?_
    refine va_iast hx hb hK hP hD hS 2 1 rfl rfl (ti_in rfl (by omega) (by omega)) dX4_throneByWord_30 (fun H locs hP hD hS => ?_)
    obtain ⟨f_880, ef_880⟩ : ∃ g : Nat → Int32, g = upd f_875 p0.toNatClampNeg p1 := ⟨_, rfl⟩
    rw [← ef_880] at hP hD
    have hG := hG.trans (lt_eq ef_880)
    obtain ⟨hP, hD⟩ := wl2 (ws' := [(oc4 oL rL_values rL_supposed), (arI rL_values kL_values 18 fL_values), (arI rL_supposed kL_supposed 18 f_880), (arI rC_kind kC_kind 18 fC_kind), (arI rC_parts kC_parts 18 fC_parts), (arI rC_partNodes kC_partNodes 72 fC_partNodes), (arI rC_weights kC_weights 72 fC_weights), (arI rC_weightSums kC_weightSums 18 fC_weightSums), (oc5 oS rS_worths rS_order rS_left), (arI rS_worths kS_worths 18 fS_worths), (oc1 oC iC_nodes iC_words iC_chances iC_unsures iC_slips iC_throneNode iC_saidWorth iC_unit rC_kind rC_parts rC_partNodes rC_weights rC_weightSums rC_toldWorths rC_steps rC_below rC_above rC_unsureWords rC_unsureWorths)]) hP hD rfl
    refine lv_aload_n hx hb dX4_throneByWord_31 rfl (lv_at hl 0 rfl) ?_
    refine lv_aload_n hx hb dX4_throneByWord_32 rfl (lv_at hl 1 rfl) ?_
    refine lv_aload_n hx hb dX4_throneByWord_33 rfl (lv_at hl 0 rfl) ?_
    refine va_get (D := (dC, dI)) (ci := 4) (v := .ref rL_supposed) (C := RX4) (T := TX4) (N := 2) hx hb hts inX4 hown hK hP 0 rfl rfl 1 (by decide) (hts _ wd_147) (fun _ h9 => h9) rfl dX4_throneByWord_34 ?_
    have hFc := va_free (wc := [(oc4 oL rL_values rL_supposed), (arI rL_values kL_values 18 fL_values), (oc1 oC iC_nodes iC_words iC_chances iC_unsures iC_slips iC_throneNode iC_saidWorth iC_unit rC_kind rC_parts rC_partNodes rC_weights rC_weightSums rC_toldWorths rC_steps rC_below rC_above rC_unsureWords rC_unsureWorths), (arI rC_kind kC_kind 18 fC_kind), (arI rC_parts kC_parts 18 fC_parts), (arI rC_partNodes kC_partNodes 72 fC_partNodes), (arI rC_weights kC_weights 72 fC_weights), (arI rC_weightSums kC_weightSums 18 fC_weightSums), (arI rL_supposed kL_supposed 18 f_880)]) hD hS hA [0, 1, 10, 3, 4, 5, 6, 7, 2] rfl
    refine va_calli (va_runV (As := [.ref oC, .ref rL_supposed]) (rest := []) ⟨hx, hb, hml, hown, hts⟩ (tX4_weighAll l dC dI _ oL rL_values fL_values kL_values rL_supposed oC iC_nodes iC_words iC_chances iC_unsures iC_slips iC_throneNode iC_saidWorth iC_unit rC_kind fC_kind kC_kind rC_parts fC_parts kC_parts rC_partNodes fC_partNodes kC_partNodes rC_weights fC_weights kC_weights rC_weightSums fC_weightSums kC_weightSums rC_toldWorths rC_steps rC_below rC_above rC_unsureWords rC_unsureWorths rL_supposed f_880 kL_supposed (by first | exact b_iC_nodes | omega | decide) (by first | exact b_iC_unsures | omega | decide) (by first | exact b_iC_throneNode | omega | decide) a_fC_parts a_fC_partNodes) (cwV 2 hts (wd_V wd_949 wd_613 wd_614 wd_37 (wd_c wd_615)) rfl rfl rfl (by decide +kernel) ⟨Nat.le_of_ble_eq_true rfl, Nat.le_of_ble_eq_true rfl⟩) ⟨Pw.fb, va_recv hK hP (ci := 4) (q0 := 0) rfl rfl, fun U hU hW => Pw.to (hP.sub [0, 1, 10, 3, 4, 5, 6, 7, 2] rfl) (hD.sub [0, 1, 10, 3, 4, 5, 6, 7, 2] (by decide) rfl) (hK.sub [0, 2, 3, 4, 5, 6, 1] rfl) hE hS hFc hU hW⟩ rfl rfl hl.1 rfl (lv_room (Nat.le_of_ble_eq_true rfl)) dX4_throneByWord_37 ⟨Nat.le_of_ble_eq_true rfl, Nat.le_of_ble_eq_true rfl⟩) hS (fun q _ h => hFc q h) hFc (fun r u t H locs ht hvm hw hB hz1 hk1 hS => ?_)
    have hru9 := hw.2
    have hw := hw.1
    obtain ⟨f_881, e_f_881_0, hB⟩ := hB
    obtain ⟨hP, hD, hK⟩ := Bw.go (ws' := [(oc5 oS rS_worths rS_order rS_left), (arI rS_worths kS_worths 18 fS_worths), (oc4 oL rL_values rL_supposed), (arI rL_values kL_values 18 f_881), (oc1 oC iC_nodes iC_words iC_chances iC_unsures iC_slips iC_throneNode iC_saidWorth iC_unit rC_kind rC_parts rC_partNodes rC_weights rC_weightSums rC_toldWorths rC_steps rC_below rC_above rC_unsureWords rC_unsureWorths), (arI rC_kind kC_kind 18 fC_kind), (arI rC_parts kC_parts 18 fC_parts), (arI rC_partNodes kC_partNodes 72 fC_partNodes), (arI rC_weights kC_weights 72 fC_weights), (arI rC_weightSums kC_weightSums 18 fC_weightSums), (arI rL_supposed kL_supposed 18 f_880)]) (tys' := [(kS_worths, .int), (kL_values, .int), (kC_kind, .int), (kC_parts, .int), (kC_partNodes, .int), (kC_weights, .int), (kC_weightSums, .int), (kL_supposed, .int)]) hB rfl ht hvm hP hD hK [0, 1, 10, 3, 4, 5, 6, 7, 2] [8, 9] rfl (by decide) (by decide) [7] hk1 hFc rfl rfl rfl
    clear hz1 hk1 hvm ht hB
    rw [← hru9] at e_f_881_0
    obtain ⟨x_882, rfl⟩ : ∃ z, z = r := ⟨_, rfl⟩
    have hG := hG.trans (un2_eq e_f_881_0)
    exact W.iret hx hb hr (fun t ht hW => ⟨⟨_, (cI x_882), rfl, ⟨⟨trivial, trivial⟩, (cI_of x_882)⟩, ⟨f_881, f_880, (cI_tup hG), Bw.to (hP.sub [2, 3, 10, 4, 5, 6, 7, 8, 9, 0, 1] rfl) (hD.sub [2, 3, 10, 4, 5, 6, 7, 8, 9, 0, 1] (by decide) rfl) (hK.sub [1, 7, 2, 3, 4, 5, 6, 0] rfl) ht hW⟩⟩, hS.F ht⟩) hS.2.2 dX4_throneByWord_40
  · skip
    have hG := hG.trans (lt_eq hru9.symm)
    have hG := hG.trans (if_neg (by decide))
    refine lv_if_eq (tgt := 31) hx hb dX4_throneByWord_20 (by decide) (fun _ => ?_) (fun c => absurd c (by decide))
    refine lv_aload_n hx hb dX4_throneByWord_31 rfl (lv_at hl 0 rfl) ?_
    refine lv_aload_n hx hb dX4_throneByWord_32 rfl (lv_at hl 1 rfl) ?_
    refine lv_aload_n hx hb dX4_throneByWord_33 rfl (lv_at hl 0 rfl) ?_
    refine va_get (D := (dC, dI)) (ci := 4) (v := .ref rL_supposed) (C := RX4) (T := TX4) (N := 2) hx hb hts inX4 hown hK hP 0 rfl rfl 1 (by decide) (hts _ wd_147) (fun _ h9 => h9) rfl dX4_throneByWord_34 ?_
    have hFc := va_free (wc := [(oc4 oL rL_values rL_supposed), (arI rL_values kL_values 18 fL_values), (oc1 oC iC_nodes iC_words iC_chances iC_unsures iC_slips iC_throneNode iC_saidWorth iC_unit rC_kind rC_parts rC_partNodes rC_weights rC_weightSums rC_toldWorths rC_steps rC_below rC_above rC_unsureWords rC_unsureWorths), (arI rC_kind kC_kind 18 fC_kind), (arI rC_parts kC_parts 18 fC_parts), (arI rC_partNodes kC_partNodes 72 fC_partNodes), (arI rC_weights kC_weights 72 fC_weights), (arI rC_weightSums kC_weightSums 18 fC_weightSums), (arI rL_supposed kL_supposed 18 f_875)]) hD hS hA [0, 1, 10, 3, 4, 5, 6, 7, 2] rfl
    refine va_calli (va_runV (As := [.ref oC, .ref rL_supposed]) (rest := []) ⟨hx, hb, hml, hown, hts⟩ (tX4_weighAll l dC dI _ oL rL_values fL_values kL_values rL_supposed oC iC_nodes iC_words iC_chances iC_unsures iC_slips iC_throneNode iC_saidWorth iC_unit rC_kind fC_kind kC_kind rC_parts fC_parts kC_parts rC_partNodes fC_partNodes kC_partNodes rC_weights fC_weights kC_weights rC_weightSums fC_weightSums kC_weightSums rC_toldWorths rC_steps rC_below rC_above rC_unsureWords rC_unsureWorths rL_supposed f_875 kL_supposed (by first | exact b_iC_nodes | omega | decide) (by first | exact b_iC_unsures | omega | decide) (by first | exact b_iC_throneNode | omega | decide) a_fC_parts a_fC_partNodes) (cwV 2 hts (wd_V wd_949 wd_613 wd_614 wd_37 (wd_c wd_615)) rfl rfl rfl (by decide +kernel) ⟨Nat.le_of_ble_eq_true rfl, Nat.le_of_ble_eq_true rfl⟩) ⟨Pw.fb, va_recv hK hP (ci := 4) (q0 := 0) rfl rfl, fun U hU hW => Pw.to (hP.sub [0, 1, 10, 3, 4, 5, 6, 7, 2] rfl) (hD.sub [0, 1, 10, 3, 4, 5, 6, 7, 2] (by decide) rfl) (hK.sub [0, 2, 3, 4, 5, 6, 1] rfl) hE hS hFc hU hW⟩ rfl rfl hl.1 rfl (lv_room (Nat.le_of_ble_eq_true rfl)) dX4_throneByWord_37 ⟨Nat.le_of_ble_eq_true rfl, Nat.le_of_ble_eq_true rfl⟩) hS (fun q _ h => hFc q h) hFc (fun r u t H locs ht hvm hw hB hz1 hk1 hS => ?_)
    have hru9 := hw.2
    have hw := hw.1
    obtain ⟨f_884, e_f_884_0, hB⟩ := hB
    obtain ⟨hP, hD, hK⟩ := Bw.go (ws' := [(oc5 oS rS_worths rS_order rS_left), (arI rS_worths kS_worths 18 fS_worths), (oc4 oL rL_values rL_supposed), (arI rL_values kL_values 18 f_884), (oc1 oC iC_nodes iC_words iC_chances iC_unsures iC_slips iC_throneNode iC_saidWorth iC_unit rC_kind rC_parts rC_partNodes rC_weights rC_weightSums rC_toldWorths rC_steps rC_below rC_above rC_unsureWords rC_unsureWorths), (arI rC_kind kC_kind 18 fC_kind), (arI rC_parts kC_parts 18 fC_parts), (arI rC_partNodes kC_partNodes 72 fC_partNodes), (arI rC_weights kC_weights 72 fC_weights), (arI rC_weightSums kC_weightSums 18 fC_weightSums), (arI rL_supposed kL_supposed 18 f_875)]) (tys' := [(kS_worths, .int), (kL_values, .int), (kC_kind, .int), (kC_parts, .int), (kC_partNodes, .int), (kC_weights, .int), (kC_weightSums, .int), (kL_supposed, .int)]) hB rfl ht hvm hP hD hK [0, 1, 10, 3, 4, 5, 6, 7, 2] [8, 9] rfl (by decide) (by decide) [7] hk1 hFc rfl rfl rfl
    clear hz1 hk1 hvm ht hB
    rw [← hru9] at e_f_884_0
    obtain ⟨x_885, rfl⟩ : ∃ z, z = r := ⟨_, rfl⟩
    have hG := hG.trans (un2_eq e_f_884_0)
    exact W.iret hx hb hr (fun t ht hW => ⟨⟨_, (cI x_885), rfl, ⟨⟨trivial, trivial⟩, (cI_of x_885)⟩, ⟨f_884, f_875, (cI_tup hG), Bw.to (hP.sub [2, 3, 10, 4, 5, 6, 7, 8, 9, 0, 1] rfl) (hD.sub [2, 3, 10, 4, 5, 6, 7, 8, 9, 0, 1] (by decide) rfl) (hK.sub [1, 7, 2, 3, 4, 5, 6, 0] rfl) ht hW⟩⟩, hS.F ht⟩) hS.2.2 dX4_throneByWord_40
set_option maxHeartbeats 4000000 in
set_option maxRecDepth 100000 in
theorem tX4_throneBySet (l : Launch) (dC : Nat → ClassId) (dI : Nat → Nat → Nat) (sz : Nat) (oL : Nat) (rL_values : Nat) (fL_values : Nat → Int32) (kL_values : ClassId) (rL_supposed : Nat) (fL_supposed : Nat → Int32) (kL_supposed : ClassId) (oC : Nat) (iC_nodes : Int32) (iC_words : Int32) (iC_chances : Int32) (iC_unsures : Int32) (iC_slips : Int32) (iC_throneNode : Int32) (iC_saidWorth : Int32) (iC_unit : Int32) (rC_kind : Nat) (fC_kind : Nat → Int32) (kC_kind : ClassId) (rC_parts : Nat) (fC_parts : Nat → Int32) (kC_parts : ClassId) (rC_partNodes : Nat) (fC_partNodes : Nat → Int32) (kC_partNodes : ClassId) (rC_weights : Nat) (fC_weights : Nat → Int32) (kC_weights : ClassId) (rC_weightSums : Nat) (fC_weightSums : Nat → Int32) (kC_weightSums : ClassId) (rC_toldWorths : Nat) (rC_steps : Nat) (rC_below : Nat) (rC_above : Nat) (rC_unsureWords : Nat) (rC_unsureWorths : Nat) (oS : Nat) (rS_worths : Nat) (fS_worths : Nat → Int32) (kS_worths : ClassId) (rS_order : Nat) (rS_left : Nat) (p0 : Int32) (p1 : Int32) (b_iC_nodes : 0 ≤ iC_nodes.toInt ∧ iC_nodes.toInt ≤ 18) (b_iC_unsures : 0 ≤ iC_unsures.toInt ∧ iC_unsures.toInt ≤ 4) (b_iC_throneNode : (-1) ≤ iC_throneNode.toInt ∧ iC_throneNode.toInt ≤ 17) (a_fC_parts : ∀ j : Nat, j < 18 → 0 ≤ (fC_parts j).toInt ∧ (fC_parts j).toInt ≤ 4) (a_fC_partNodes : ∀ j : Nat, j < 72 → 0 ≤ (fC_partNodes j).toInt ∧ (fC_partNodes j).toInt ≤ 17)  : Met l yX4_throneBySet (Cond.code yX4_throneBySet cX4_throneBySet 6 (some .int) :: wG) ({ frames := 3, cells := 0, slots := 0, locals := 71 }) (va_Pc [.ref oL, .ref oC, .ref oS, .int p0, .int p1] (Pw dC dI sz [(oc4 oL rL_values rL_supposed), (arI rL_values kL_values 18 fL_values), (arI rL_supposed kL_supposed 18 fL_supposed), (oc1 oC iC_nodes iC_words iC_chances iC_unsures iC_slips iC_throneNode iC_saidWorth iC_unit rC_kind rC_parts rC_partNodes rC_weights rC_weightSums rC_toldWorths rC_steps rC_below rC_above rC_unsureWords rC_unsureWorths), (arI rC_kind kC_kind 18 fC_kind), (arI rC_parts kC_parts 18 fC_parts), (arI rC_partNodes kC_partNodes 72 fC_partNodes), (arI rC_weights kC_weights 72 fC_weights), (arI rC_weightSums kC_weightSums 18 fC_weightSums), (oc5 oS rS_worths rS_order rS_left), (arI rS_worths kS_worths 18 fS_worths)] [(kL_values, .int), (kL_supposed, .int), (kC_kind, .int), (kC_parts, .int), (kC_partNodes, .int), (kC_weights, .int), (kC_weightSums, .int), (kS_worths, .int)])) (va_Qi (fun (r : Int32) (u : Nat) => (True ∧ True) ∧ r = Int32.ofNat u) (fun (u : Nat) (t : State) => ∃ (nfL_values : Nat → Int32) (nfL_supposed : Nat → Int32), (PX4_throneBySet fL_values fL_supposed iC_nodes iC_throneNode iC_unit fC_kind fC_parts fC_partNodes fC_weights fC_weightSums fS_worths p0 p1 = (Int32.ofNat u, nfL_values, nfL_supposed)) ∧ Bw dC dI (va_A [(oc4 oL rL_values rL_supposed), (arI rL_values kL_values 18 fL_values), (arI rL_supposed kL_supposed 18 fL_supposed), (oc1 oC iC_nodes iC_words iC_chances iC_unsures iC_slips iC_throneNode iC_saidWorth iC_unit rC_kind rC_parts rC_partNodes rC_weights rC_weightSums rC_toldWorths rC_steps rC_below rC_above rC_unsureWords rC_unsureWorths), (arI rC_kind kC_kind 18 fC_kind), (arI rC_parts kC_parts 18 fC_parts), (arI rC_partNodes kC_partNodes 72 fC_partNodes), (arI rC_weights kC_weights 72 fC_weights), (arI rC_weightSums kC_weightSums 18 fC_weightSums), (oc5 oS rS_worths rS_order rS_left), (arI rS_worths kS_worths 18 fS_worths)] sz) [(oc4 oL rL_values rL_supposed), (arI rL_values kL_values 18 nfL_values), (arI rL_supposed kL_supposed 18 nfL_supposed), (oc1 oC iC_nodes iC_words iC_chances iC_unsures iC_slips iC_throneNode iC_saidWorth iC_unit rC_kind rC_parts rC_partNodes rC_weights rC_weightSums rC_toldWorths rC_steps rC_below rC_above rC_unsureWords rC_unsureWorths), (arI rC_kind kC_kind 18 fC_kind), (arI rC_parts kC_parts 18 fC_parts), (arI rC_partNodes kC_partNodes 72 fC_partNodes), (arI rC_weights kC_weights 72 fC_weights), (arI rC_weightSums kC_weightSums 18 fC_weightSums), (oc5 oS rS_worths rS_order rS_left), (arI rS_worths kS_worths 18 fS_worths)] [(kL_values, .int), (kL_supposed, .int), (kC_kind, .int), (kC_parts, .int), (kC_partNodes, .int), (kC_weights, .int), (kC_weightSums, .int), (kS_worths, .int)] t) (va_A [(oc4 oL rL_values rL_supposed), (arI rL_values kL_values 18 fL_values), (arI rL_supposed kL_supposed 18 fL_supposed), (oc1 oC iC_nodes iC_words iC_chances iC_unsures iC_slips iC_throneNode iC_saidWorth iC_unit rC_kind rC_parts rC_partNodes rC_weights rC_weightSums rC_toldWorths rC_steps rC_below rC_above rC_unsureWords rC_unsureWorths), (arI rC_kind kC_kind 18 fC_kind), (arI rC_parts kC_parts 18 fC_parts), (arI rC_partNodes kC_partNodes 72 fC_partNodes), (arI rC_weights kC_weights 72 fC_weights), (arI rC_weightSums kC_weightSums 18 fC_weightSums), (oc5 oS rS_worths rS_order rS_left), (arI rS_worths kS_worths 18 fS_worths)] sz)) 0 0 (va_A [(oc4 oL rL_values rL_supposed), (arI rL_values kL_values 18 fL_values), (arI rL_supposed kL_supposed 18 fL_supposed), (oc1 oC iC_nodes iC_words iC_chances iC_unsures iC_slips iC_throneNode iC_saidWorth iC_unit rC_kind rC_parts rC_partNodes rC_weights rC_weightSums rC_toldWorths rC_steps rC_below rC_above rC_unsureWords rC_unsureWorths), (arI rC_kind kC_kind 18 fC_kind), (arI rC_parts kC_parts 18 fC_parts), (arI rC_partNodes kC_partNodes 72 fC_partNodes), (arI rC_weights kC_weights 72 fC_weights), (arI rC_weightSums kC_weightSums 18 fC_weightSums), (oc5 oS rS_worths rS_order rS_left), (arI rS_worths kS_worths 18 fS_worths)] sz) := by
  refine Met.ofW (cc := cX4_throneBySet) (maxL := 6) (ret := (some .int)) (by decide) rfl ?_
  intro p e s m args below meth c s₁ B hml hv
  obtain ⟨rfl, hsz, hP, hK, hD0, hE⟩ := hv
  have hx := B.exec
  have hb := B.bytes
  have hr := B.returns
  have hts : ∀ w ∈ wG, w.before ([.ref oL, .ref oC, .ref oS, .int p0, .int p1] : List Value).toArray s = true := fun w h => atoms_spec (ws := Cond.code yX4_throneBySet cX4_throneBySet 6 (some .int) :: wG) B.pre w (List.mem_cons_of_mem _ h)
  have hown : s.vm.findClass RX4 = some m.cls := findClass_of_methodNamed B.named
  have hlocks := B.notSynchronized
  subst hsz
  have hD := hD0.self (sz := s.heap.size)
  generalize hAe : va_A [(oc4 oL rL_values rL_supposed), (arI rL_values kL_values 18 fL_values), (arI rL_supposed kL_supposed 18 fL_supposed), (oc1 oC iC_nodes iC_words iC_chances iC_unsures iC_slips iC_throneNode iC_saidWorth iC_unit rC_kind rC_parts rC_partNodes rC_weights rC_weightSums rC_toldWorths rC_steps rC_below rC_above rC_unsureWords rC_unsureWorths), (arI rC_kind kC_kind 18 fC_kind), (arI rC_parts kC_parts 18 fC_parts), (arI rC_partNodes kC_partNodes 72 fC_partNodes), (arI rC_weights kC_weights 72 fC_weights), (arI rC_weightSums kC_weightSums 18 fC_weightSums), (oc5 oS rS_worths rS_order rS_left), (arI rS_worths kS_worths 18 fS_worths)] s.heap.size = A at hD hE ⊢
  have hA : ∀ q : Nat, s.heap.size ≤ q → A q := fun q h => by rw [← hAe]; exact Or.inr h
  have hS : va_S A s.heap s.heap [] := va_S.rf
  have hl := lv_entry ([.ref oL, .ref oC, .ref oS, .int p0, .int p1]) (n := 6) (Nat.le_of_ble_eq_true rfl)
  rw [lg_entry_eq]
  generalize (lg_sl ([.ref oL, .ref oC, .ref oS, .int p0, .int p1]) ++ List.replicate (6 - (lg_sl ([.ref oL, .ref oC, .ref oS, .int p0, .int p1])).length) Slot.unset).toArray = ls at hl ⊢
  have hl : lv_has ls 6 [(0, .ref oL), (1, .ref oC), (2, .ref oS), (3, .int p0), (4, .int p1)] := hl
  have hG := PX4_throneBySet_eq fL_values fL_supposed iC_nodes iC_throneNode iC_unit fC_kind fC_parts fC_partNodes fC_weights fC_weightSums fS_worths p0 p1
  have rg_p0 := fb_rng p0
  have rg_p1 := fb_rng p1
  refine lv_iconst (v := 0) hx hb dX4_throneBySet_0 (by decide) ?_
  refine lv_istore (lv' := [(5, .int 0), (0, .ref oL), (1, .ref oC), (2, .ref oS), (3, .int p0), (4, .int p1)]) hx hb dX4_throneBySet_1 hl (by decide) rfl (fun ls hl => ?_)
  have hl := lv_sub hl (l' := [(5, .int 0), (0, .ref oL), (1, .ref oC), (2, .ref oS), (3, .int p0), (4, .int p1)]) [0, 1, 2, 3, 4, 5] rfl
  have key_n_912 : ∀ (n_912 : Nat) (z_910 : Int32) (f_911 : Nat → Int32) (H : Heap) (locs : List Loc) (ls : Array Slot), (0 ≤ z_910.toInt ∧ z_910.toInt ≤ 2147483647) → (2147483647 - z_910.toInt).toNat < n_912 → (PX4_throneBySet fL_values fL_supposed iC_nodes iC_throneNode iC_unit fC_kind fC_parts fC_partNodes fC_weights fC_weightSums fS_worths p0 p1 = HX4_throneBySet_0 fL_values iC_nodes iC_throneNode iC_unit fC_kind fC_parts fC_partNodes fC_weights fC_weightSums fS_worths p0 p1 n_912 z_910 f_911) → va_P (dC, dI) vwCl [(oc4 oL rL_values rL_supposed), (arI rL_values kL_values 18 fL_values), (arI rL_supposed kL_supposed 18 f_911), (oc1 oC iC_nodes iC_words iC_chances iC_unsures iC_slips iC_throneNode iC_saidWorth iC_unit rC_kind rC_parts rC_partNodes rC_weights rC_weightSums rC_toldWorths rC_steps rC_below rC_above rC_unsureWords rC_unsureWorths), (arI rC_kind kC_kind 18 fC_kind), (arI rC_parts kC_parts 18 fC_parts), (arI rC_partNodes kC_partNodes 72 fC_partNodes), (arI rC_weights kC_weights 72 fC_weights), (arI rC_weightSums kC_weightSums 18 fC_weightSums), (oc5 oS rS_worths rS_order rS_left), (arI rS_worths kS_worths 18 fS_worths)] H → va_D A [(oc4 oL rL_values rL_supposed), (arI rL_values kL_values 18 fL_values), (arI rL_supposed kL_supposed 18 f_911), (oc1 oC iC_nodes iC_words iC_chances iC_unsures iC_slips iC_throneNode iC_saidWorth iC_unit rC_kind rC_parts rC_partNodes rC_weights rC_weightSums rC_toldWorths rC_steps rC_below rC_above rC_unsureWords rC_unsureWorths), (arI rC_kind kC_kind 18 fC_kind), (arI rC_parts kC_parts 18 fC_parts), (arI rC_partNodes kC_partNodes 72 fC_partNodes), (arI rC_weights kC_weights 72 fC_weights), (arI rC_weightSums kC_weightSums 18 fC_weightSums), (oc5 oS rS_worths rS_order rS_left), (arI rS_worths kS_worths 18 fS_worths)] → va_S A s.heap H locs → lv_has ls 6 [(5, .int z_910), (0, .ref oL), (1, .ref oC), (2, .ref oS), (3, .int p0), (4, .int p1)] → W p l e (headSpec (Cond.code yX4_throneBySet cX4_throneBySet 6 (some .int) :: wG) ({ frames := 3, cells := 0, slots := 0, locals := 71 })).room s m ([.ref oL, .ref oC, .ref oS, .int p0, .int p1] : List Value).toArray below meth c H locs 0 0 (MQ below (va_Qi (fun (r : Int32) (u : Nat) => (True ∧ True) ∧ r = Int32.ofNat u) (fun (u : Nat) (t : State) => ∃ (nfL_values : Nat → Int32) (nfL_supposed : Nat → Int32), (PX4_throneBySet fL_values fL_supposed iC_nodes iC_throneNode iC_unit fC_kind fC_parts fC_partNodes fC_weights fC_weightSums fS_worths p0 p1 = (Int32.ofNat u, nfL_values, nfL_supposed)) ∧ Bw dC dI A [(oc4 oL rL_values rL_supposed), (arI rL_values kL_values 18 nfL_values), (arI rL_supposed kL_supposed 18 nfL_supposed), (oc1 oC iC_nodes iC_words iC_chances iC_unsures iC_slips iC_throneNode iC_saidWorth iC_unit rC_kind rC_parts rC_partNodes rC_weights rC_weightSums rC_toldWorths rC_steps rC_below rC_above rC_unsureWords rC_unsureWorths), (arI rC_kind kC_kind 18 fC_kind), (arI rC_parts kC_parts 18 fC_parts), (arI rC_partNodes kC_partNodes 72 fC_partNodes), (arI rC_weights kC_weights 72 fC_weights), (arI rC_weightSums kC_weightSums 18 fC_weightSums), (oc5 oS rS_worths rS_order rS_left), (arI rS_worths kS_worths 18 fS_worths)] [(kL_values, .int), (kL_supposed, .int), (kC_kind, .int), (kC_parts, .int), (kC_partNodes, .int), (kC_weights, .int), (kC_weightSums, .int), (kS_worths, .int)] t) A) ([.ref oL, .ref oC, .ref oS, .int p0, .int p1] : List Value).toArray s 0 0 A) (F0 m 3 ls []) := by
    intro n_912
    induction n_912 with
    | zero => intro z_910 f_911 H locs ls hi0_n_912 hm; exact absurd hm (by omega)
    | succ n_912 ih_n_912 =>
      intro z_910 f_911 H locs ls hi0_n_912 hm hG hP hD hS hl
      have hG := hG.trans (HX4_throneBySet_0_eq _ _ _ _ _ _ _ _ _ _ _ _ _ _ _)
      have rg_z_910 := fb_rng z_910
      refine lv_iload hx hb dX4_throneBySet_3 (lv_at hl 0 rfl) ?_
      refine lv_aload_n hx hb dX4_throneBySet_5 rfl (lv_at hl 2 rfl) ?_
      refine va_get (D := (dC, dI)) (ci := 1) (v := .int iC_nodes) (C := RX1) (T := TX1) (N := 19) hx hb hts inX1 hown hK hP 3 rfl rfl 0 (by decide) (hts _ wd_616) (fun _ h9 => h9) rfl dX4_throneBySet_6 ?_
      have rg_iC_nodes := fb_rng iC_nodes
      refine lv_icmp_ge (tgt := 47) hx hb dX4_throneBySet_9 (by decide) (fun c_913 => ?_) (fun c_913 => ?_)
      · skip
        have hG := hG.trans (if_pos c_913)
        have gc_913 := ti_le c_913 rfl rfl
        refine lv_aload_n hx hb dX4_throneBySet_47 rfl (lv_at hl 1 rfl) ?_
        refine lv_aload_n hx hb dX4_throneBySet_48 rfl (lv_at hl 2 rfl) ?_
        refine lv_aload_n hx hb dX4_throneBySet_49 rfl (lv_at hl 1 rfl) ?_
        refine va_get (D := (dC, dI)) (ci := 4) (v := .ref rL_supposed) (C := RX4) (T := TX4) (N := 2) hx hb hts inX4 hown hK hP 0 rfl rfl 1 (by decide) (hts _ wd_147) (fun _ h9 => h9) rfl dX4_throneBySet_50 ?_
        have hFc := va_free (wc := [(oc4 oL rL_values rL_supposed), (arI rL_values kL_values 18 fL_values), (oc1 oC iC_nodes iC_words iC_chances iC_unsures iC_slips iC_throneNode iC_saidWorth iC_unit rC_kind rC_parts rC_partNodes rC_weights rC_weightSums rC_toldWorths rC_steps rC_below rC_above rC_unsureWords rC_unsureWorths), (arI rC_kind kC_kind 18 fC_kind), (arI rC_parts kC_parts 18 fC_parts), (arI rC_partNodes kC_partNodes 72 fC_partNodes), (arI rC_weights kC_weights 72 fC_weights), (arI rC_weightSums kC_weightSums 18 fC_weightSums), (arI rL_supposed kL_supposed 18 f_911)]) hD hS hA [0, 1, 3, 4, 5, 6, 7, 8, 2] rfl
        refine va_calli (va_runV (As := [.ref oC, .ref rL_supposed]) (rest := []) ⟨hx, hb, hml, hown, hts⟩ (tX4_weighAll l dC dI _ oL rL_values fL_values kL_values rL_supposed oC iC_nodes iC_words iC_chances iC_unsures iC_slips iC_throneNode iC_saidWorth iC_unit rC_kind fC_kind kC_kind rC_parts fC_parts kC_parts rC_partNodes fC_partNodes kC_partNodes rC_weights fC_weights kC_weights rC_weightSums fC_weightSums kC_weightSums rC_toldWorths rC_steps rC_below rC_above rC_unsureWords rC_unsureWorths rL_supposed f_911 kL_supposed (by first | exact b_iC_nodes | omega | decide) (by first | exact b_iC_unsures | omega | decide) (by first | exact b_iC_throneNode | omega | decide) a_fC_parts a_fC_partNodes) (cwV 2 hts (wd_V wd_949 wd_613 wd_614 wd_37 (wd_c wd_615)) rfl rfl rfl (by decide +kernel) ⟨Nat.le_of_ble_eq_true rfl, Nat.le_of_ble_eq_true rfl⟩) ⟨Pw.fb, va_recv hK hP (ci := 4) (q0 := 0) rfl rfl, fun U hU hW => Pw.to (hP.sub [0, 1, 3, 4, 5, 6, 7, 8, 2] rfl) (hD.sub [0, 1, 3, 4, 5, 6, 7, 8, 2] (by decide) rfl) (hK.sub [0, 2, 3, 4, 5, 6, 1] rfl) hE hS hFc hU hW⟩ rfl rfl hl.1 rfl (lv_room (Nat.le_of_ble_eq_true rfl)) dX4_throneBySet_53 ⟨Nat.le_of_ble_eq_true rfl, Nat.le_of_ble_eq_true rfl⟩) hS (fun q _ h => hFc q h) hFc (fun r u t H locs ht hvm hw hB hz1 hk1 hS => ?_)
        have hru9 := hw.2
        have hw := hw.1
        obtain ⟨f_914, e_f_914_0, hB⟩ := hB
        obtain ⟨hP, hD, hK⟩ := Bw.go (ws' := [(oc5 oS rS_worths rS_order rS_left), (arI rS_worths kS_worths 18 fS_worths), (oc4 oL rL_values rL_supposed), (arI rL_values kL_values 18 f_914), (oc1 oC iC_nodes iC_words iC_chances iC_unsures iC_slips iC_throneNode iC_saidWorth iC_unit rC_kind rC_parts rC_partNodes rC_weights rC_weightSums rC_toldWorths rC_steps rC_below rC_above rC_unsureWords rC_unsureWorths), (arI rC_kind kC_kind 18 fC_kind), (arI rC_parts kC_parts 18 fC_parts), (arI rC_partNodes kC_partNodes 72 fC_partNodes), (arI rC_weights kC_weights 72 fC_weights), (arI rC_weightSums kC_weightSums 18 fC_weightSums), (arI rL_supposed kL_supposed 18 f_911)]) (tys' := [(kS_worths, .int), (kL_values, .int), (kC_kind, .int), (kC_parts, .int), (kC_partNodes, .int), (kC_weights, .int), (kC_weightSums, .int), (kL_supposed, .int)]) hB rfl ht hvm hP hD hK [0, 1, 3, 4, 5, 6, 7, 8, 2] [9, 10] rfl (by decide) (by decide) [7] hk1 hFc rfl rfl rfl
        clear hz1 hk1 hvm ht hB
        rw [← hru9] at e_f_914_0
        obtain ⟨x_915, rfl⟩ : ∃ z, z = r := ⟨_, rfl⟩
        have hG := hG.trans (un2_eq e_f_914_0)
        have rg_x_915 := fb_rng x_915
        exact W.iret hx hb hr (fun t ht hW => ⟨⟨_, (cI x_915), rfl, ⟨⟨trivial, trivial⟩, (cI_of x_915)⟩, ⟨f_914, f_911, (cI_tup hG), Bw.to (hP.sub [2, 3, 10, 4, 5, 6, 7, 8, 9, 0, 1] rfl) (hD.sub [2, 3, 10, 4, 5, 6, 7, 8, 9, 0, 1] (by decide) rfl) (hK.sub [1, 7, 2, 3, 4, 5, 6, 0] rfl) ht hW⟩⟩, hS.F ht⟩) hS.2.2 dX4_throneBySet_56
      · skip
        have hG := hG.trans (if_neg c_913)
        have gc_913 := ti_nle c_913 rfl rfl
        refine lv_aload_n hx hb dX4_throneBySet_12 rfl (lv_at hl 1 rfl) ?_
        refine va_get (D := (dC, dI)) (ci := 4) (v := .ref rL_supposed) (C := RX4) (T := TX4) (N := 2) hx hb hts inX4 hown hK hP 0 rfl rfl 1 (by decide) (hts _ wd_147) (fun _ h9 => h9) rfl dX4_throneBySet_13 ?_
        refine lv_iload hx hb dX4_throneBySet_16 (lv_at hl 0 rfl) ?_
        refine lv_iload_n hx hb dX4_throneBySet_18 rfl (lv_at hl 4 rfl) ?_
        refine lv_iload hx hb dX4_throneBySet_19 (lv_at hl 0 rfl) ?_
        refine lv_ishr hx hb dX4_throneBySet_21 ?_
        refine lv_topi (fun x_916 ex_916 => ?_)
        have hG := hG.trans (lt_eq ex_916)
        have rg_x_916 := fb_rng x_916
        refine lv_iconst (v := 1) hx hb dX4_throneBySet_22 (by decide) ?_
        refine lv_iand hx hb dX4_throneBySet_23 ?_
        refine lv_topi (fun x_917 ex_917 => ?_)
        have hG := hG.trans (lt_eq ex_917)
        have rg_x_917 := fb_rng x_917
        refine lv_iconst (v := 1) hx hb dX4_throneBySet_24 (by decide) ?_
        refine lv_icmp_ne (tgt := 38) hx hb dX4_throneBySet_25 (by decide) (fun c_918 => ?_) (fun c_918 => ?_)
        · skip
          have hG := hG.trans (if_neg c_918)
          have gc_918 := ti_ne c_918 rfl kc_1
          refine lv_iload hx hb dX4_throneBySet_38 (lv_at hl 5 rfl) ?_
          refine va_iast hx hb hK hP hD hS 2 1 rfl rfl (ti_in rfl (by omega) (by omega)) dX4_throneBySet_40 (fun H locs hP hD hS => ?_)
          obtain ⟨f_920, ef_920⟩ : ∃ g : Nat → Int32, g = upd f_911 z_910.toNatClampNeg p1 := ⟨_, rfl⟩
          rw [← ef_920] at hP hD
          have hG := hG.trans (lt_eq ef_920)
          obtain ⟨hP, hD⟩ := wl2 (ws' := [(oc4 oL rL_values rL_supposed), (arI rL_values kL_values 18 fL_values), (arI rL_supposed kL_supposed 18 f_920), (oc1 oC iC_nodes iC_words iC_chances iC_unsures iC_slips iC_throneNode iC_saidWorth iC_unit rC_kind rC_parts rC_partNodes rC_weights rC_weightSums rC_toldWorths rC_steps rC_below rC_above rC_unsureWords rC_unsureWorths), (arI rC_kind kC_kind 18 fC_kind), (arI rC_parts kC_parts 18 fC_parts), (arI rC_partNodes kC_partNodes 72 fC_partNodes), (arI rC_weights kC_weights 72 fC_weights), (arI rC_weightSums kC_weightSums 18 fC_weightSums), (oc5 oS rS_worths rS_order rS_left), (arI rS_worths kS_worths 18 fS_worths)]) hP hD rfl
          obtain ⟨x_921, ex_921⟩ : ∃ z : Int32, z = z_910 + Int32.ofInt 1 := ⟨_, rfl⟩
          have hG := hG.trans (lt_eq ex_921)
          have vx_921 : x_921.toInt = z_910.toInt + 1 := by have q := ti_add (y := 1) ex_921 rfl kc_1 (by omega) (by omega); omega
          refine lv_iinc (v := x_921) (lv' := [(5, .int x_921), (0, .ref oL), (1, .ref oC), (2, .ref oS), (3, .int p0), (4, .int p1)]) hx hb dX4_throneBySet_41 hl (k := 0) rfl ex_921.symm (by decide) rfl (fun ls hl => ?_)
          refine lv_goto (tgt := 3) hx hb dX4_throneBySet_44 (by decide) ?_
          exact ih_n_912 x_921 f_920 _ _ _  (by first | omega | decide | assumption) (by omega) hG (hP.sub [0, 1, 2, 3, 4, 5, 6, 7, 8, 9, 10] rfl) (hD.sub [0, 1, 2, 3, 4, 5, 6, 7, 8, 9, 10] (by decide) rfl) hS (lv_sub hl [0, 1, 2, 3, 4, 5] rfl)
        · skip
          have hG := hG.trans (if_pos c_918)
          have gc_918 := ti_eq c_918 rfl kc_1
          refine lv_aload_n hx hb dX4_throneBySet_28 rfl (lv_at hl 3 rfl) ?_
          refine va_get (D := (dC, dI)) (ci := 5) (v := .ref rS_worths) (C := RX5) (T := TX5) (N := 3) hx hb hts inX5 hown hK hP 9 rfl rfl 0 (by decide) (hts _ wd_948) (fun _ h9 => h9) rfl dX4_throneBySet_29 ?_
          refine lv_iload hx hb dX4_throneBySet_32 (lv_at hl 0 rfl) ?_
          refine va_iald hx hb hK hP 10 7 rfl rfl (ti_in rfl (by omega) (by omega)) dX4_throneBySet_34 ?_
          refine lv_topi (fun x_922 ex_922 => ?_)
          have hG := hG.trans (lt_eq ex_922)
          have rg_x_922 := fb_rng x_922
          have kx_922 : (fS_worths z_910.toNatClampNeg).toInt = x_922.toInt := by rw [ex_922]
          refine lv_goto (tgt := 40) hx hb dX4_throneBySet_35 (by decide) ?_
          refine va_iast hx hb hK hP hD hS 2 1 rfl rfl (ti_in rfl (by omega) (by omega)) dX4_throneBySet_40 (fun H locs hP hD hS => ?_)
          obtain ⟨f_924, ef_924⟩ : ∃ g : Nat → Int32, g = upd f_911 z_910.toNatClampNeg x_922 := ⟨_, rfl⟩
          rw [← ef_924] at hP hD
          have hG := hG.trans (lt_eq ef_924)
          obtain ⟨hP, hD⟩ := wl2 (ws' := [(oc4 oL rL_values rL_supposed), (arI rL_values kL_values 18 fL_values), (arI rL_supposed kL_supposed 18 f_924), (oc1 oC iC_nodes iC_words iC_chances iC_unsures iC_slips iC_throneNode iC_saidWorth iC_unit rC_kind rC_parts rC_partNodes rC_weights rC_weightSums rC_toldWorths rC_steps rC_below rC_above rC_unsureWords rC_unsureWorths), (arI rC_kind kC_kind 18 fC_kind), (arI rC_parts kC_parts 18 fC_parts), (arI rC_partNodes kC_partNodes 72 fC_partNodes), (arI rC_weights kC_weights 72 fC_weights), (arI rC_weightSums kC_weightSums 18 fC_weightSums), (oc5 oS rS_worths rS_order rS_left), (arI rS_worths kS_worths 18 fS_worths)]) hP hD rfl
          obtain ⟨x_925, ex_925⟩ : ∃ z : Int32, z = z_910 + Int32.ofInt 1 := ⟨_, rfl⟩
          have hG := hG.trans (lt_eq ex_925)
          have vx_925 : x_925.toInt = z_910.toInt + 1 := by have q := ti_add (y := 1) ex_925 rfl kc_1 (by omega) (by omega); omega
          refine lv_iinc (v := x_925) (lv' := [(5, .int x_925), (0, .ref oL), (1, .ref oC), (2, .ref oS), (3, .int p0), (4, .int p1)]) hx hb dX4_throneBySet_41 hl (k := 0) rfl ex_925.symm (by decide) rfl (fun ls hl => ?_)
          refine lv_goto (tgt := 3) hx hb dX4_throneBySet_44 (by decide) ?_
          exact ih_n_912 x_925 f_924 _ _ _  (by first | omega | decide | assumption) (by omega) hG (hP.sub [0, 1, 2, 3, 4, 5, 6, 7, 8, 9, 10] rfl) (hD.sub [0, 1, 2, 3, 4, 5, 6, 7, 8, 9, 10] (by decide) rfl) hS (lv_sub hl [0, 1, 2, 3, 4, 5] rfl)
  exact key_n_912 (((2147483647 - (0 : Int32).toInt).toNat) + 1) 0 fL_supposed _ _ _  (by first | omega | decide | assumption | (have q0 := kc_0; have q1 := kc_1; omega)) (by omega) hG hP hD hS hl
set_option maxHeartbeats 4000000 in
set_option maxRecDepth 100000 in
theorem tX4_throneByUnsure (l : Launch) (dC : Nat → ClassId) (dI : Nat → Nat → Nat) (sz : Nat) (oL : Nat) (rL_values : Nat) (fL_values : Nat → Int32) (kL_values : ClassId) (rL_supposed : Nat) (fL_supposed : Nat → Int32) (kL_supposed : ClassId) (oC : Nat) (iC_nodes : Int32) (iC_words : Int32) (iC_chances : Int32) (iC_unsures : Int32) (iC_slips : Int32) (iC_throneNode : Int32) (iC_saidWorth : Int32) (iC_unit : Int32) (rC_kind : Nat) (fC_kind : Nat → Int32) (kC_kind : ClassId) (rC_parts : Nat) (fC_parts : Nat → Int32) (kC_parts : ClassId) (rC_partNodes : Nat) (fC_partNodes : Nat → Int32) (kC_partNodes : ClassId) (rC_weights : Nat) (fC_weights : Nat → Int32) (kC_weights : ClassId) (rC_weightSums : Nat) (fC_weightSums : Nat → Int32) (kC_weightSums : ClassId) (rC_toldWorths : Nat) (rC_steps : Nat) (rC_below : Nat) (rC_above : Nat) (rC_unsureWords : Nat) (fC_unsureWords : Nat → Int32) (kC_unsureWords : ClassId) (rC_unsureWorths : Nat) (fC_unsureWorths : Nat → Int32) (kC_unsureWorths : ClassId) (rW : Nat) (fW : Nat → Int32) (kW : ClassId) (p0 : Int32) (b_iC_nodes : 0 ≤ iC_nodes.toInt ∧ iC_nodes.toInt ≤ 18) (b_iC_unsures : 0 ≤ iC_unsures.toInt ∧ iC_unsures.toInt ≤ 4) (b_iC_throneNode : (-1) ≤ iC_throneNode.toInt ∧ iC_throneNode.toInt ≤ 17) (a_fC_parts : ∀ j : Nat, j < 18 → 0 ≤ (fC_parts j).toInt ∧ (fC_parts j).toInt ≤ 4) (a_fC_partNodes : ∀ j : Nat, j < 72 → 0 ≤ (fC_partNodes j).toInt ∧ (fC_partNodes j).toInt ≤ 17) (a_fC_unsureWords : ∀ j : Nat, j < 4 → 0 ≤ (fC_unsureWords j).toInt ∧ (fC_unsureWords j).toInt ≤ 17)  : Met l yX4_throneByUnsure (Cond.code yX4_throneByUnsure cX4_throneByUnsure 5 (some .int) :: wG) ({ frames := 3, cells := 0, slots := 0, locals := 71 }) (va_Pc [.ref oL, .ref oC, .ref rW, .int p0] (Pw dC dI sz [(oc4 oL rL_values rL_supposed), (arI rL_values kL_values 18 fL_values), (arI rL_supposed kL_supposed 18 fL_supposed), (oc1 oC iC_nodes iC_words iC_chances iC_unsures iC_slips iC_throneNode iC_saidWorth iC_unit rC_kind rC_parts rC_partNodes rC_weights rC_weightSums rC_toldWorths rC_steps rC_below rC_above rC_unsureWords rC_unsureWorths), (arI rC_kind kC_kind 18 fC_kind), (arI rC_parts kC_parts 18 fC_parts), (arI rC_partNodes kC_partNodes 72 fC_partNodes), (arI rC_weights kC_weights 72 fC_weights), (arI rC_weightSums kC_weightSums 18 fC_weightSums), (arI rC_unsureWords kC_unsureWords 4 fC_unsureWords), (arI rC_unsureWorths kC_unsureWorths 4 fC_unsureWorths), (arI rW kW 18 fW)] [(kL_values, .int), (kL_supposed, .int), (kC_kind, .int), (kC_parts, .int), (kC_partNodes, .int), (kC_weights, .int), (kC_weightSums, .int), (kC_unsureWords, .int), (kC_unsureWorths, .int), (kW, .int)])) (va_Qi (fun (r : Int32) (u : Nat) => (True ∧ True) ∧ r = Int32.ofNat u) (fun (u : Nat) (t : State) => ∃ (nfL_values : Nat → Int32) (nfL_supposed : Nat → Int32), (PX4_throneByUnsure fL_values fL_supposed iC_nodes iC_unsures iC_throneNode iC_unit fC_kind fC_parts fC_partNodes fC_weights fC_weightSums fC_unsureWords fC_unsureWorths fW p0 = (Int32.ofNat u, nfL_values, nfL_supposed)) ∧ Bw dC dI (va_A [(oc4 oL rL_values rL_supposed), (arI rL_values kL_values 18 fL_values), (arI rL_supposed kL_supposed 18 fL_supposed), (oc1 oC iC_nodes iC_words iC_chances iC_unsures iC_slips iC_throneNode iC_saidWorth iC_unit rC_kind rC_parts rC_partNodes rC_weights rC_weightSums rC_toldWorths rC_steps rC_below rC_above rC_unsureWords rC_unsureWorths), (arI rC_kind kC_kind 18 fC_kind), (arI rC_parts kC_parts 18 fC_parts), (arI rC_partNodes kC_partNodes 72 fC_partNodes), (arI rC_weights kC_weights 72 fC_weights), (arI rC_weightSums kC_weightSums 18 fC_weightSums), (arI rC_unsureWords kC_unsureWords 4 fC_unsureWords), (arI rC_unsureWorths kC_unsureWorths 4 fC_unsureWorths), (arI rW kW 18 fW)] sz) [(oc4 oL rL_values rL_supposed), (arI rL_values kL_values 18 nfL_values), (arI rL_supposed kL_supposed 18 nfL_supposed), (oc1 oC iC_nodes iC_words iC_chances iC_unsures iC_slips iC_throneNode iC_saidWorth iC_unit rC_kind rC_parts rC_partNodes rC_weights rC_weightSums rC_toldWorths rC_steps rC_below rC_above rC_unsureWords rC_unsureWorths), (arI rC_kind kC_kind 18 fC_kind), (arI rC_parts kC_parts 18 fC_parts), (arI rC_partNodes kC_partNodes 72 fC_partNodes), (arI rC_weights kC_weights 72 fC_weights), (arI rC_weightSums kC_weightSums 18 fC_weightSums), (arI rC_unsureWords kC_unsureWords 4 fC_unsureWords), (arI rC_unsureWorths kC_unsureWorths 4 fC_unsureWorths), (arI rW kW 18 fW)] [(kL_values, .int), (kL_supposed, .int), (kC_kind, .int), (kC_parts, .int), (kC_partNodes, .int), (kC_weights, .int), (kC_weightSums, .int), (kC_unsureWords, .int), (kC_unsureWorths, .int), (kW, .int)] t) (va_A [(oc4 oL rL_values rL_supposed), (arI rL_values kL_values 18 fL_values), (arI rL_supposed kL_supposed 18 fL_supposed), (oc1 oC iC_nodes iC_words iC_chances iC_unsures iC_slips iC_throneNode iC_saidWorth iC_unit rC_kind rC_parts rC_partNodes rC_weights rC_weightSums rC_toldWorths rC_steps rC_below rC_above rC_unsureWords rC_unsureWorths), (arI rC_kind kC_kind 18 fC_kind), (arI rC_parts kC_parts 18 fC_parts), (arI rC_partNodes kC_partNodes 72 fC_partNodes), (arI rC_weights kC_weights 72 fC_weights), (arI rC_weightSums kC_weightSums 18 fC_weightSums), (arI rC_unsureWords kC_unsureWords 4 fC_unsureWords), (arI rC_unsureWorths kC_unsureWorths 4 fC_unsureWorths), (arI rW kW 18 fW)] sz)) 0 0 (va_A [(oc4 oL rL_values rL_supposed), (arI rL_values kL_values 18 fL_values), (arI rL_supposed kL_supposed 18 fL_supposed), (oc1 oC iC_nodes iC_words iC_chances iC_unsures iC_slips iC_throneNode iC_saidWorth iC_unit rC_kind rC_parts rC_partNodes rC_weights rC_weightSums rC_toldWorths rC_steps rC_below rC_above rC_unsureWords rC_unsureWorths), (arI rC_kind kC_kind 18 fC_kind), (arI rC_parts kC_parts 18 fC_parts), (arI rC_partNodes kC_partNodes 72 fC_partNodes), (arI rC_weights kC_weights 72 fC_weights), (arI rC_weightSums kC_weightSums 18 fC_weightSums), (arI rC_unsureWords kC_unsureWords 4 fC_unsureWords), (arI rC_unsureWorths kC_unsureWorths 4 fC_unsureWorths), (arI rW kW 18 fW)] sz) := by
  refine Met.ofW (cc := cX4_throneByUnsure) (maxL := 5) (ret := (some .int)) (by decide) rfl ?_
  intro p e s m args below meth c s₁ B hml hv
  obtain ⟨rfl, hsz, hP, hK, hD0, hE⟩ := hv
  have hx := B.exec
  have hb := B.bytes
  have hr := B.returns
  have hts : ∀ w ∈ wG, w.before ([.ref oL, .ref oC, .ref rW, .int p0] : List Value).toArray s = true := fun w h => atoms_spec (ws := Cond.code yX4_throneByUnsure cX4_throneByUnsure 5 (some .int) :: wG) B.pre w (List.mem_cons_of_mem _ h)
  have hown : s.vm.findClass RX4 = some m.cls := findClass_of_methodNamed B.named
  have hlocks := B.notSynchronized
  subst hsz
  have hD := hD0.self (sz := s.heap.size)
  generalize hAe : va_A [(oc4 oL rL_values rL_supposed), (arI rL_values kL_values 18 fL_values), (arI rL_supposed kL_supposed 18 fL_supposed), (oc1 oC iC_nodes iC_words iC_chances iC_unsures iC_slips iC_throneNode iC_saidWorth iC_unit rC_kind rC_parts rC_partNodes rC_weights rC_weightSums rC_toldWorths rC_steps rC_below rC_above rC_unsureWords rC_unsureWorths), (arI rC_kind kC_kind 18 fC_kind), (arI rC_parts kC_parts 18 fC_parts), (arI rC_partNodes kC_partNodes 72 fC_partNodes), (arI rC_weights kC_weights 72 fC_weights), (arI rC_weightSums kC_weightSums 18 fC_weightSums), (arI rC_unsureWords kC_unsureWords 4 fC_unsureWords), (arI rC_unsureWorths kC_unsureWorths 4 fC_unsureWorths), (arI rW kW 18 fW)] s.heap.size = A at hD hE ⊢
  have hA : ∀ q : Nat, s.heap.size ≤ q → A q := fun q h => by rw [← hAe]; exact Or.inr h
  have hS : va_S A s.heap s.heap [] := va_S.rf
  have hl := lv_entry ([.ref oL, .ref oC, .ref rW, .int p0]) (n := 5) (Nat.le_of_ble_eq_true rfl)
  rw [lg_entry_eq]
  generalize (lg_sl ([.ref oL, .ref oC, .ref rW, .int p0]) ++ List.replicate (5 - (lg_sl ([.ref oL, .ref oC, .ref rW, .int p0])).length) Slot.unset).toArray = ls at hl ⊢
  have hl : lv_has ls 5 [(0, .ref oL), (1, .ref oC), (2, .ref rW), (3, .int p0)] := hl
  have hG := PX4_throneByUnsure_eq fL_values fL_supposed iC_nodes iC_unsures iC_throneNode iC_unit fC_kind fC_parts fC_partNodes fC_weights fC_weightSums fC_unsureWords fC_unsureWorths fW p0
  have rg_p0 := fb_rng p0
  refine lv_aload_n hx hb dX4_throneByUnsure_0 rfl (lv_at hl 2 rfl) ?_
  refine lv_iconst (v := 0) hx hb dX4_throneByUnsure_1 (by decide) ?_
  refine lv_aload_n hx hb dX4_throneByUnsure_2 rfl (lv_at hl 0 rfl) ?_
  refine va_get (D := (dC, dI)) (ci := 4) (v := .ref rL_supposed) (C := RX4) (T := TX4) (N := 2) hx hb hts inX4 hown hK hP 0 rfl rfl 1 (by decide) (hts _ wd_147) (fun _ h9 => h9) rfl dX4_throneByUnsure_3 ?_
  refine lv_iconst (v := 0) hx hb dX4_throneByUnsure_6 (by decide) ?_
  refine lv_bipush (v := 18) hx hb dX4_throneByUnsure_7 (by decide) ?_
  refine vz_copyE hx hb (hml.trans hl.1.symm) hown (hts _ wd_1134) (hts _ wd_1016) (hts _ wd_1017) (hts _ wd_1018) hK hP hD hS 11 2 9 1 rfl rfl rfl rfl (k := 18) (by decide) (by decide) (Nat.le_of_ble_eq_true rfl) (Nat.le_of_ble_eq_true (by decide +kernel)) dX4_throneByUnsure_9 (fun H locs f_955 ef_955 c_f_955 hP hD hS => ?_)
  have hG := hG.trans (lt_eq ef_955)
  obtain ⟨hP, hD⟩ := wl2 (ws' := [(oc4 oL rL_values rL_supposed), (arI rL_values kL_values 18 fL_values), (arI rL_supposed kL_supposed 18 f_955), (oc1 oC iC_nodes iC_words iC_chances iC_unsures iC_slips iC_throneNode iC_saidWorth iC_unit rC_kind rC_parts rC_partNodes rC_weights rC_weightSums rC_toldWorths rC_steps rC_below rC_above rC_unsureWords rC_unsureWorths), (arI rC_kind kC_kind 18 fC_kind), (arI rC_parts kC_parts 18 fC_parts), (arI rC_partNodes kC_partNodes 72 fC_partNodes), (arI rC_weights kC_weights 72 fC_weights), (arI rC_weightSums kC_weightSums 18 fC_weightSums), (arI rC_unsureWords kC_unsureWords 4 fC_unsureWords), (arI rC_unsureWorths kC_unsureWorths 4 fC_unsureWorths), (arI rW kW 18 fW)]) hP hD rfl
  refine lv_iconst (v := 0) hx hb dX4_throneByUnsure_12 (by decide) ?_
  refine lv_istore (lv' := [(4, .int 0), (0, .ref oL), (1, .ref oC), (2, .ref rW), (3, .int p0)]) hx hb dX4_throneByUnsure_13 hl (by decide) rfl (fun ls hl => ?_)
  have hl := lv_sub hl (l' := [(4, .int 0), (0, .ref oL), (1, .ref oC), (2, .ref rW), (3, .int p0)]) [0, 1, 2, 3, 4] rfl
  have key_n_958 : ∀ (n_958 : Nat) (z_956 : Int32) (f_957 : Nat → Int32) (H : Heap) (locs : List Loc) (ls : Array Slot), (0 ≤ z_956.toInt ∧ z_956.toInt ≤ 2147483647) → (2147483647 - z_956.toInt).toNat < n_958 → (PX4_throneByUnsure fL_values fL_supposed iC_nodes iC_unsures iC_throneNode iC_unit fC_kind fC_parts fC_partNodes fC_weights fC_weightSums fC_unsureWords fC_unsureWorths fW p0 = HX4_throneByUnsure_0 fL_values iC_nodes iC_unsures iC_throneNode iC_unit fC_kind fC_parts fC_partNodes fC_weights fC_weightSums fC_unsureWords fC_unsureWorths p0 n_958 z_956 f_957) → va_P (dC, dI) vwCl [(oc4 oL rL_values rL_supposed), (arI rL_values kL_values 18 fL_values), (arI rL_supposed kL_supposed 18 f_957), (oc1 oC iC_nodes iC_words iC_chances iC_unsures iC_slips iC_throneNode iC_saidWorth iC_unit rC_kind rC_parts rC_partNodes rC_weights rC_weightSums rC_toldWorths rC_steps rC_below rC_above rC_unsureWords rC_unsureWorths), (arI rC_kind kC_kind 18 fC_kind), (arI rC_parts kC_parts 18 fC_parts), (arI rC_partNodes kC_partNodes 72 fC_partNodes), (arI rC_weights kC_weights 72 fC_weights), (arI rC_weightSums kC_weightSums 18 fC_weightSums), (arI rC_unsureWords kC_unsureWords 4 fC_unsureWords), (arI rC_unsureWorths kC_unsureWorths 4 fC_unsureWorths), (arI rW kW 18 fW)] H → va_D A [(oc4 oL rL_values rL_supposed), (arI rL_values kL_values 18 fL_values), (arI rL_supposed kL_supposed 18 f_957), (oc1 oC iC_nodes iC_words iC_chances iC_unsures iC_slips iC_throneNode iC_saidWorth iC_unit rC_kind rC_parts rC_partNodes rC_weights rC_weightSums rC_toldWorths rC_steps rC_below rC_above rC_unsureWords rC_unsureWorths), (arI rC_kind kC_kind 18 fC_kind), (arI rC_parts kC_parts 18 fC_parts), (arI rC_partNodes kC_partNodes 72 fC_partNodes), (arI rC_weights kC_weights 72 fC_weights), (arI rC_weightSums kC_weightSums 18 fC_weightSums), (arI rC_unsureWords kC_unsureWords 4 fC_unsureWords), (arI rC_unsureWorths kC_unsureWorths 4 fC_unsureWorths), (arI rW kW 18 fW)] → va_S A s.heap H locs → lv_has ls 5 [(4, .int z_956), (0, .ref oL), (1, .ref oC), (2, .ref rW), (3, .int p0)] → W p l e (headSpec (Cond.code yX4_throneByUnsure cX4_throneByUnsure 5 (some .int) :: wG) ({ frames := 3, cells := 0, slots := 0, locals := 71 })).room s m ([.ref oL, .ref oC, .ref rW, .int p0] : List Value).toArray below meth c H locs 0 0 (MQ below (va_Qi (fun (r : Int32) (u : Nat) => (True ∧ True) ∧ r = Int32.ofNat u) (fun (u : Nat) (t : State) => ∃ (nfL_values : Nat → Int32) (nfL_supposed : Nat → Int32), (PX4_throneByUnsure fL_values fL_supposed iC_nodes iC_unsures iC_throneNode iC_unit fC_kind fC_parts fC_partNodes fC_weights fC_weightSums fC_unsureWords fC_unsureWorths fW p0 = (Int32.ofNat u, nfL_values, nfL_supposed)) ∧ Bw dC dI A [(oc4 oL rL_values rL_supposed), (arI rL_values kL_values 18 nfL_values), (arI rL_supposed kL_supposed 18 nfL_supposed), (oc1 oC iC_nodes iC_words iC_chances iC_unsures iC_slips iC_throneNode iC_saidWorth iC_unit rC_kind rC_parts rC_partNodes rC_weights rC_weightSums rC_toldWorths rC_steps rC_below rC_above rC_unsureWords rC_unsureWorths), (arI rC_kind kC_kind 18 fC_kind), (arI rC_parts kC_parts 18 fC_parts), (arI rC_partNodes kC_partNodes 72 fC_partNodes), (arI rC_weights kC_weights 72 fC_weights), (arI rC_weightSums kC_weightSums 18 fC_weightSums), (arI rC_unsureWords kC_unsureWords 4 fC_unsureWords), (arI rC_unsureWorths kC_unsureWorths 4 fC_unsureWorths), (arI rW kW 18 fW)] [(kL_values, .int), (kL_supposed, .int), (kC_kind, .int), (kC_parts, .int), (kC_partNodes, .int), (kC_weights, .int), (kC_weightSums, .int), (kC_unsureWords, .int), (kC_unsureWorths, .int), (kW, .int)] t) A) ([.ref oL, .ref oC, .ref rW, .int p0] : List Value).toArray s 0 0 A) (F0 m 15 ls []) := by
    intro n_958
    induction n_958 with
    | zero => intro z_956 f_957 H locs ls hi0_n_958 hm; exact absurd hm (by omega)
    | succ n_958 ih_n_958 =>
      intro z_956 f_957 H locs ls hi0_n_958 hm hG hP hD hS hl
      have hG := hG.trans (HX4_throneByUnsure_0_eq _ _ _ _ _ _ _ _ _ _ _ _ _ _ _ _)
      have rg_z_956 := fb_rng z_956
      refine lv_iload hx hb dX4_throneByUnsure_15 (lv_at hl 0 rfl) ?_
      refine lv_aload_n hx hb dX4_throneByUnsure_17 rfl (lv_at hl 2 rfl) ?_
      refine va_get (D := (dC, dI)) (ci := 1) (v := .int iC_unsures) (C := RX1) (T := TX1) (N := 19) hx hb hts inX1 hown hK hP 3 rfl rfl 3 (by decide) (hts _ wd_1173) (fun _ h9 => h9) rfl dX4_throneByUnsure_18 ?_
      have rg_iC_unsures := fb_rng iC_unsures
      refine lv_icmp_ge (tgt := 59) hx hb dX4_throneByUnsure_21 (by decide) (fun c_959 => ?_) (fun c_959 => ?_)
      · skip
        have hG := hG.trans (if_pos c_959)
        have gc_959 := ti_le c_959 rfl rfl
        refine lv_aload_n hx hb dX4_throneByUnsure_59 rfl (lv_at hl 1 rfl) ?_
        refine lv_aload_n hx hb dX4_throneByUnsure_60 rfl (lv_at hl 2 rfl) ?_
        refine lv_aload_n hx hb dX4_throneByUnsure_61 rfl (lv_at hl 1 rfl) ?_
        refine va_get (D := (dC, dI)) (ci := 4) (v := .ref rL_supposed) (C := RX4) (T := TX4) (N := 2) hx hb hts inX4 hown hK hP 0 rfl rfl 1 (by decide) (hts _ wd_147) (fun _ h9 => h9) rfl dX4_throneByUnsure_62 ?_
        have hFc := va_free (wc := [(oc4 oL rL_values rL_supposed), (arI rL_values kL_values 18 fL_values), (oc1 oC iC_nodes iC_words iC_chances iC_unsures iC_slips iC_throneNode iC_saidWorth iC_unit rC_kind rC_parts rC_partNodes rC_weights rC_weightSums rC_toldWorths rC_steps rC_below rC_above rC_unsureWords rC_unsureWorths), (arI rC_kind kC_kind 18 fC_kind), (arI rC_parts kC_parts 18 fC_parts), (arI rC_partNodes kC_partNodes 72 fC_partNodes), (arI rC_weights kC_weights 72 fC_weights), (arI rC_weightSums kC_weightSums 18 fC_weightSums), (arI rL_supposed kL_supposed 18 f_957)]) hD hS hA [0, 1, 3, 4, 5, 6, 7, 8, 2] rfl
        refine va_calli (va_runV (As := [.ref oC, .ref rL_supposed]) (rest := []) ⟨hx, hb, hml, hown, hts⟩ (tX4_weighAll l dC dI _ oL rL_values fL_values kL_values rL_supposed oC iC_nodes iC_words iC_chances iC_unsures iC_slips iC_throneNode iC_saidWorth iC_unit rC_kind fC_kind kC_kind rC_parts fC_parts kC_parts rC_partNodes fC_partNodes kC_partNodes rC_weights fC_weights kC_weights rC_weightSums fC_weightSums kC_weightSums rC_toldWorths rC_steps rC_below rC_above rC_unsureWords rC_unsureWorths rL_supposed f_957 kL_supposed (by first | exact b_iC_nodes | omega | decide) (by first | exact b_iC_unsures | omega | decide) (by first | exact b_iC_throneNode | omega | decide) a_fC_parts a_fC_partNodes) (cwV 2 hts (wd_V wd_949 wd_613 wd_614 wd_37 (wd_c wd_615)) rfl rfl rfl (by decide +kernel) ⟨Nat.le_of_ble_eq_true rfl, Nat.le_of_ble_eq_true rfl⟩) ⟨Pw.fb, va_recv hK hP (ci := 4) (q0 := 0) rfl rfl, fun U hU hW => Pw.to (hP.sub [0, 1, 3, 4, 5, 6, 7, 8, 2] rfl) (hD.sub [0, 1, 3, 4, 5, 6, 7, 8, 2] (by decide) rfl) (hK.sub [0, 2, 3, 4, 5, 6, 1] rfl) hE hS hFc hU hW⟩ rfl rfl hl.1 rfl (lv_room (Nat.le_of_ble_eq_true rfl)) dX4_throneByUnsure_65 ⟨Nat.le_of_ble_eq_true rfl, Nat.le_of_ble_eq_true rfl⟩) hS (fun q _ h => hFc q h) hFc (fun r u t H locs ht hvm hw hB hz1 hk1 hS => ?_)
        have hru9 := hw.2
        have hw := hw.1
        obtain ⟨f_960, e_f_960_0, hB⟩ := hB
        obtain ⟨hP, hD, hK⟩ := Bw.go (ws' := [(arI rC_unsureWords kC_unsureWords 4 fC_unsureWords), (arI rC_unsureWorths kC_unsureWorths 4 fC_unsureWorths), (arI rW kW 18 fW), (oc4 oL rL_values rL_supposed), (arI rL_values kL_values 18 f_960), (oc1 oC iC_nodes iC_words iC_chances iC_unsures iC_slips iC_throneNode iC_saidWorth iC_unit rC_kind rC_parts rC_partNodes rC_weights rC_weightSums rC_toldWorths rC_steps rC_below rC_above rC_unsureWords rC_unsureWorths), (arI rC_kind kC_kind 18 fC_kind), (arI rC_parts kC_parts 18 fC_parts), (arI rC_partNodes kC_partNodes 72 fC_partNodes), (arI rC_weights kC_weights 72 fC_weights), (arI rC_weightSums kC_weightSums 18 fC_weightSums), (arI rL_supposed kL_supposed 18 f_957)]) (tys' := [(kC_unsureWords, .int), (kC_unsureWorths, .int), (kW, .int), (kL_values, .int), (kC_kind, .int), (kC_parts, .int), (kC_partNodes, .int), (kC_weights, .int), (kC_weightSums, .int), (kL_supposed, .int)]) hB rfl ht hvm hP hD hK [0, 1, 3, 4, 5, 6, 7, 8, 2] [9, 10, 11] rfl (by decide) (by decide) [7, 8, 9] hk1 hFc rfl rfl rfl
        clear hz1 hk1 hvm ht hB
        rw [← hru9] at e_f_960_0
        obtain ⟨x_961, rfl⟩ : ∃ z, z = r := ⟨_, rfl⟩
        have hG := hG.trans (un2_eq e_f_960_0)
        have rg_x_961 := fb_rng x_961
        exact W.iret hx hb hr (fun t ht hW => ⟨⟨_, (cI x_961), rfl, ⟨⟨trivial, trivial⟩, (cI_of x_961)⟩, ⟨f_960, f_957, (cI_tup hG), Bw.to (hP.sub [3, 4, 11, 5, 6, 7, 8, 9, 10, 0, 1, 2] rfl) (hD.sub [3, 4, 11, 5, 6, 7, 8, 9, 10, 0, 1, 2] (by decide) rfl) (hK.sub [3, 9, 4, 5, 6, 7, 8, 0, 1, 2] rfl) ht hW⟩⟩, hS.F ht⟩) hS.2.2 dX4_throneByUnsure_68
      · skip
        have hG := hG.trans (if_neg c_959)
        have gc_959 := ti_nle c_959 rfl rfl
        refine lv_iload_n hx hb dX4_throneByUnsure_24 rfl (lv_at hl 4 rfl) ?_
        refine lv_iload hx hb dX4_throneByUnsure_25 (lv_at hl 0 rfl) ?_
        refine lv_ishr hx hb dX4_throneByUnsure_27 ?_
        refine lv_topi (fun x_962 ex_962 => ?_)
        have hG := hG.trans (lt_eq ex_962)
        have rg_x_962 := fb_rng x_962
        refine lv_iconst (v := 1) hx hb dX4_throneByUnsure_28 (by decide) ?_
        refine lv_iand hx hb dX4_throneByUnsure_29 ?_
        refine lv_topi (fun x_963 ex_963 => ?_)
        have hG := hG.trans (lt_eq ex_963)
        have rg_x_963 := fb_rng x_963
        refine lv_iconst (v := 1) hx hb dX4_throneByUnsure_30 (by decide) ?_
        refine lv_icmp_ne (tgt := 53) hx hb dX4_throneByUnsure_31 (by decide) (fun c_964 => ?_) (fun c_964 => ?_)
        · skip
          have hG := hG.trans (if_neg c_964)
          have gc_964 := ti_ne c_964 rfl kc_1
          obtain ⟨x_965, ex_965⟩ : ∃ z : Int32, z = z_956 + Int32.ofInt 1 := ⟨_, rfl⟩
          have hG := hG.trans (lt_eq ex_965)
          have vx_965 : x_965.toInt = z_956.toInt + 1 := by have q := ti_add (y := 1) ex_965 rfl kc_1 (by omega) (by omega); omega
          refine lv_iinc (v := x_965) (lv' := [(4, .int x_965), (0, .ref oL), (1, .ref oC), (2, .ref rW), (3, .int p0)]) hx hb dX4_throneByUnsure_53 hl (k := 0) rfl ex_965.symm (by decide) rfl (fun ls hl => ?_)
          refine lv_goto (tgt := 15) hx hb dX4_throneByUnsure_56 (by decide) ?_
          exact ih_n_958 x_965 f_957 _ _ _  (by first | omega | decide | assumption) (by omega) hG (hP.sub [0, 1, 2, 3, 4, 5, 6, 7, 8, 9, 10, 11] rfl) (hD.sub [0, 1, 2, 3, 4, 5, 6, 7, 8, 9, 10, 11] (by decide) rfl) hS (lv_sub hl [0, 1, 2, 3, 4] rfl)
        · skip
          have hG := hG.trans (if_pos c_964)
          have gc_964 := ti_eq c_964 rfl kc_1
          refine lv_aload_n hx hb dX4_throneByUnsure_34 rfl (lv_at hl 1 rfl) ?_
          refine va_get (D := (dC, dI)) (ci := 4) (v := .ref rL_supposed) (C := RX4) (T := TX4) (N := 2) hx hb hts inX4 hown hK hP 0 rfl rfl 1 (by decide) (hts _ wd_147) (fun _ h9 => h9) rfl dX4_throneByUnsure_35 ?_
          refine lv_aload_n hx hb dX4_throneByUnsure_38 rfl (lv_at hl 2 rfl) ?_
          refine va_get (D := (dC, dI)) (ci := 1) (v := .ref rC_unsureWords) (C := RX1) (T := TX1) (N := 19) hx hb hts inX1 hown hK hP 3 rfl rfl 17 (by decide) (hts _ wd_1174) (fun _ h9 => h9) rfl dX4_throneByUnsure_39 ?_
          refine lv_iload hx hb dX4_throneByUnsure_42 (lv_at hl 0 rfl) ?_
          refine va_iald hx hb hK hP 9 7 rfl rfl (ti_in rfl (by omega) (by omega)) dX4_throneByUnsure_44 ?_
          refine lv_topi (fun x_966 ex_966 => ?_)
          have hG := hG.trans (lt_eq ex_966)
          have rg_x_966 := fb_rng x_966
          have kx_966 : (fC_unsureWords z_956.toNatClampNeg).toInt = x_966.toInt := by rw [ex_966]
          have ux_966 := a_fC_unsureWords _ (by have q := ti_cl (x := z_956) rfl (by omega); omega : z_956.toNatClampNeg < 4)
          rw [show fC_unsureWords z_956.toNatClampNeg = x_966 from ex_966.symm] at ux_966
          refine lv_aload_n hx hb dX4_throneByUnsure_45 rfl (lv_at hl 2 rfl) ?_
          refine va_get (D := (dC, dI)) (ci := 1) (v := .ref rC_unsureWorths) (C := RX1) (T := TX1) (N := 19) hx hb hts inX1 hown hK hP 3 rfl rfl 18 (by decide) (hts _ wd_1175) (fun _ h9 => h9) rfl dX4_throneByUnsure_46 ?_
          refine lv_iload hx hb dX4_throneByUnsure_49 (lv_at hl 0 rfl) ?_
          refine va_iald hx hb hK hP 10 8 rfl rfl (ti_in rfl (by omega) (by omega)) dX4_throneByUnsure_51 ?_
          refine lv_topi (fun x_967 ex_967 => ?_)
          have hG := hG.trans (lt_eq ex_967)
          have rg_x_967 := fb_rng x_967
          have kx_967 : (fC_unsureWorths z_956.toNatClampNeg).toInt = x_967.toInt := by rw [ex_967]
          refine va_iast hx hb hK hP hD hS 2 1 rfl rfl (ti_in rfl (by omega) (by omega)) dX4_throneByUnsure_52 (fun H locs hP hD hS => ?_)
          obtain ⟨f_969, ef_969⟩ : ∃ g : Nat → Int32, g = upd f_957 x_966.toNatClampNeg x_967 := ⟨_, rfl⟩
          rw [← ef_969] at hP hD
          have hG := hG.trans (lt_eq ef_969)
          obtain ⟨hP, hD⟩ := wl2 (ws' := [(oc4 oL rL_values rL_supposed), (arI rL_values kL_values 18 fL_values), (arI rL_supposed kL_supposed 18 f_969), (oc1 oC iC_nodes iC_words iC_chances iC_unsures iC_slips iC_throneNode iC_saidWorth iC_unit rC_kind rC_parts rC_partNodes rC_weights rC_weightSums rC_toldWorths rC_steps rC_below rC_above rC_unsureWords rC_unsureWorths), (arI rC_kind kC_kind 18 fC_kind), (arI rC_parts kC_parts 18 fC_parts), (arI rC_partNodes kC_partNodes 72 fC_partNodes), (arI rC_weights kC_weights 72 fC_weights), (arI rC_weightSums kC_weightSums 18 fC_weightSums), (arI rC_unsureWords kC_unsureWords 4 fC_unsureWords), (arI rC_unsureWorths kC_unsureWorths 4 fC_unsureWorths), (arI rW kW 18 fW)]) hP hD rfl
          obtain ⟨x_970, ex_970⟩ : ∃ z : Int32, z = z_956 + Int32.ofInt 1 := ⟨_, rfl⟩
          have hG := hG.trans (lt_eq ex_970)
          have vx_970 : x_970.toInt = z_956.toInt + 1 := by have q := ti_add (y := 1) ex_970 rfl kc_1 (by omega) (by omega); omega
          refine lv_iinc (v := x_970) (lv' := [(4, .int x_970), (0, .ref oL), (1, .ref oC), (2, .ref rW), (3, .int p0)]) hx hb dX4_throneByUnsure_53 hl (k := 0) rfl ex_970.symm (by decide) rfl (fun ls hl => ?_)
          refine lv_goto (tgt := 15) hx hb dX4_throneByUnsure_56 (by decide) ?_
          exact ih_n_958 x_970 f_969 _ _ _  (by first | omega | decide | assumption) (by omega) hG (hP.sub [0, 1, 2, 3, 4, 5, 6, 7, 8, 9, 10, 11] rfl) (hD.sub [0, 1, 2, 3, 4, 5, 6, 7, 8, 9, 10, 11] (by decide) rfl) hS (lv_sub hl [0, 1, 2, 3, 4] rfl)
  exact key_n_958 (((2147483647 - (0 : Int32).toInt).toNat) + 1) 0 f_955 _ _ _  (by first | omega | decide | assumption | (have q0 := kc_0; have q1 := kc_1; omega)) (by omega) hG hP hD hS hl
set_option maxHeartbeats 4000000 in
set_option maxRecDepth 100000 in
theorem tX4_waysDown (l : Launch) (dC : Nat → ClassId) (dI : Nat → Nat → Nat) (sz : Nat) (oL : Nat) (rL_values : Nat) (fL_values : Nat → Int32) (kL_values : ClassId) (rL_supposed : Nat) (oC : Nat) (iC_nodes : Int32) (iC_words : Int32) (iC_chances : Int32) (iC_unsures : Int32) (iC_slips : Int32) (iC_throneNode : Int32) (iC_saidWorth : Int32) (iC_unit : Int32) (rC_kind : Nat) (fC_kind : Nat → Int32) (kC_kind : ClassId) (rC_parts : Nat) (fC_parts : Nat → Int32) (kC_parts : ClassId) (rC_partNodes : Nat) (fC_partNodes : Nat → Int32) (kC_partNodes : ClassId) (rC_weights : Nat) (rC_weightSums : Nat) (rC_toldWorths : Nat) (rC_steps : Nat) (rC_below : Nat) (rC_above : Nat) (rC_unsureWords : Nat) (rC_unsureWorths : Nat) (b_iC_nodes : 0 ≤ iC_nodes.toInt ∧ iC_nodes.toInt ≤ 18) (b_iC_unsures : 0 ≤ iC_unsures.toInt ∧ iC_unsures.toInt ≤ 4) (b_iC_throneNode : (-1) ≤ iC_throneNode.toInt ∧ iC_throneNode.toInt ≤ 17) (a_fC_parts : ∀ j : Nat, j < 18 → 0 ≤ (fC_parts j).toInt ∧ (fC_parts j).toInt ≤ 4) (a_fC_partNodes : ∀ j : Nat, j < 72 → 0 ≤ (fC_partNodes j).toInt ∧ (fC_partNodes j).toInt ≤ 17)  : Met l yX4_waysDown (Cond.code yX4_waysDown cX4_waysDown 4 (some .int) :: wG) ({ frames := 2, cells := 0, slots := 0, locals := 42 }) (va_Pc [.ref oL, .ref oC] (Pw dC dI sz [(oc4 oL rL_values rL_supposed), (arI rL_values kL_values 18 fL_values), (oc1 oC iC_nodes iC_words iC_chances iC_unsures iC_slips iC_throneNode iC_saidWorth iC_unit rC_kind rC_parts rC_partNodes rC_weights rC_weightSums rC_toldWorths rC_steps rC_below rC_above rC_unsureWords rC_unsureWorths), (arI rC_kind kC_kind 18 fC_kind), (arI rC_parts kC_parts 18 fC_parts), (arI rC_partNodes kC_partNodes 72 fC_partNodes)] [(kL_values, .int), (kC_kind, .int), (kC_parts, .int), (kC_partNodes, .int)])) (va_Qi (fun (r : Int32) (u : Nat) => (True ∧ True) ∧ r = Int32.ofNat u) (fun (u : Nat) (t : State) => ∃ (nfL_values : Nat → Int32), (PX4_waysDown fL_values iC_nodes iC_throneNode fC_kind fC_parts fC_partNodes = (Int32.ofNat u, nfL_values)) ∧ Bw dC dI (va_A [(oc4 oL rL_values rL_supposed), (arI rL_values kL_values 18 fL_values), (oc1 oC iC_nodes iC_words iC_chances iC_unsures iC_slips iC_throneNode iC_saidWorth iC_unit rC_kind rC_parts rC_partNodes rC_weights rC_weightSums rC_toldWorths rC_steps rC_below rC_above rC_unsureWords rC_unsureWorths), (arI rC_kind kC_kind 18 fC_kind), (arI rC_parts kC_parts 18 fC_parts), (arI rC_partNodes kC_partNodes 72 fC_partNodes)] sz) [(oc4 oL rL_values rL_supposed), (arI rL_values kL_values 18 nfL_values), (oc1 oC iC_nodes iC_words iC_chances iC_unsures iC_slips iC_throneNode iC_saidWorth iC_unit rC_kind rC_parts rC_partNodes rC_weights rC_weightSums rC_toldWorths rC_steps rC_below rC_above rC_unsureWords rC_unsureWorths), (arI rC_kind kC_kind 18 fC_kind), (arI rC_parts kC_parts 18 fC_parts), (arI rC_partNodes kC_partNodes 72 fC_partNodes)] [(kL_values, .int), (kC_kind, .int), (kC_parts, .int), (kC_partNodes, .int)] t) (va_A [(oc4 oL rL_values rL_supposed), (arI rL_values kL_values 18 fL_values), (oc1 oC iC_nodes iC_words iC_chances iC_unsures iC_slips iC_throneNode iC_saidWorth iC_unit rC_kind rC_parts rC_partNodes rC_weights rC_weightSums rC_toldWorths rC_steps rC_below rC_above rC_unsureWords rC_unsureWorths), (arI rC_kind kC_kind 18 fC_kind), (arI rC_parts kC_parts 18 fC_parts), (arI rC_partNodes kC_partNodes 72 fC_partNodes)] sz)) 0 0 (va_A [(oc4 oL rL_values rL_supposed), (arI rL_values kL_values 18 fL_values), (oc1 oC iC_nodes iC_words iC_chances iC_unsures iC_slips iC_throneNode iC_saidWorth iC_unit rC_kind rC_parts rC_partNodes rC_weights rC_weightSums rC_toldWorths rC_steps rC_below rC_above rC_unsureWords rC_unsureWorths), (arI rC_kind kC_kind 18 fC_kind), (arI rC_parts kC_parts 18 fC_parts), (arI rC_partNodes kC_partNodes 72 fC_partNodes)] sz) := by
  refine Met.ofW (cc := cX4_waysDown) (maxL := 4) (ret := (some .int)) (by decide) rfl ?_
  intro p e s m args below meth c s₁ B hml hv
  obtain ⟨rfl, hsz, hP, hK, hD0, hE⟩ := hv
  have hx := B.exec
  have hb := B.bytes
  have hr := B.returns
  have hts : ∀ w ∈ wG, w.before ([.ref oL, .ref oC] : List Value).toArray s = true := fun w h => atoms_spec (ws := Cond.code yX4_waysDown cX4_waysDown 4 (some .int) :: wG) B.pre w (List.mem_cons_of_mem _ h)
  have hown : s.vm.findClass RX4 = some m.cls := findClass_of_methodNamed B.named
  have hlocks := B.notSynchronized
  subst hsz
  have hD := hD0.self (sz := s.heap.size)
  generalize hAe : va_A [(oc4 oL rL_values rL_supposed), (arI rL_values kL_values 18 fL_values), (oc1 oC iC_nodes iC_words iC_chances iC_unsures iC_slips iC_throneNode iC_saidWorth iC_unit rC_kind rC_parts rC_partNodes rC_weights rC_weightSums rC_toldWorths rC_steps rC_below rC_above rC_unsureWords rC_unsureWorths), (arI rC_kind kC_kind 18 fC_kind), (arI rC_parts kC_parts 18 fC_parts), (arI rC_partNodes kC_partNodes 72 fC_partNodes)] s.heap.size = A at hD hE ⊢
  have hA : ∀ q : Nat, s.heap.size ≤ q → A q := fun q h => by rw [← hAe]; exact Or.inr h
  have hS : va_S A s.heap s.heap [] := va_S.rf
  have hl := lv_entry ([.ref oL, .ref oC]) (n := 4) (Nat.le_of_ble_eq_true rfl)
  rw [lg_entry_eq]
  generalize (lg_sl ([.ref oL, .ref oC]) ++ List.replicate (4 - (lg_sl ([.ref oL, .ref oC])).length) Slot.unset).toArray = ls at hl ⊢
  have hl : lv_has ls 4 [(0, .ref oL), (1, .ref oC)] := hl
  have hG := PX4_waysDown_eq fL_values iC_nodes iC_throneNode fC_kind fC_parts fC_partNodes
  refine lv_iconst (v := 0) hx hb dX4_waysDown_0 (by decide) ?_
  refine lv_istore_n (lv' := [(2, .int 0), (0, .ref oL), (1, .ref oC)]) hx hb dX4_waysDown_1 rfl hl (by decide) rfl (fun ls hl => ?_)
  have hl := lv_sub hl (l' := [(2, .int 0), (0, .ref oL), (1, .ref oC)]) [0, 1, 2] rfl
  have key_n_1043 : ∀ (n_1043 : Nat) (z_1041 : Int32) (f_1042 : Nat → Int32) (H : Heap) (locs : List Loc) (ls : Array Slot), (0 ≤ z_1041.toInt ∧ z_1041.toInt ≤ 2147483647) → (2147483647 - z_1041.toInt).toNat < n_1043 → (PX4_waysDown fL_values iC_nodes iC_throneNode fC_kind fC_parts fC_partNodes = HX4_waysDown_0 iC_nodes iC_throneNode fC_kind fC_parts fC_partNodes n_1043 z_1041 f_1042) → va_P (dC, dI) vwCl [(oc4 oL rL_values rL_supposed), (arI rL_values kL_values 18 f_1042), (oc1 oC iC_nodes iC_words iC_chances iC_unsures iC_slips iC_throneNode iC_saidWorth iC_unit rC_kind rC_parts rC_partNodes rC_weights rC_weightSums rC_toldWorths rC_steps rC_below rC_above rC_unsureWords rC_unsureWorths), (arI rC_kind kC_kind 18 fC_kind), (arI rC_parts kC_parts 18 fC_parts), (arI rC_partNodes kC_partNodes 72 fC_partNodes)] H → va_D A [(oc4 oL rL_values rL_supposed), (arI rL_values kL_values 18 f_1042), (oc1 oC iC_nodes iC_words iC_chances iC_unsures iC_slips iC_throneNode iC_saidWorth iC_unit rC_kind rC_parts rC_partNodes rC_weights rC_weightSums rC_toldWorths rC_steps rC_below rC_above rC_unsureWords rC_unsureWorths), (arI rC_kind kC_kind 18 fC_kind), (arI rC_parts kC_parts 18 fC_parts), (arI rC_partNodes kC_partNodes 72 fC_partNodes)] → va_S A s.heap H locs → lv_has ls 4 [(2, .int z_1041), (0, .ref oL), (1, .ref oC)] → W p l e (headSpec (Cond.code yX4_waysDown cX4_waysDown 4 (some .int) :: wG) ({ frames := 2, cells := 0, slots := 0, locals := 42 })).room s m ([.ref oL, .ref oC] : List Value).toArray below meth c H locs 0 0 (MQ below (va_Qi (fun (r : Int32) (u : Nat) => (True ∧ True) ∧ r = Int32.ofNat u) (fun (u : Nat) (t : State) => ∃ (nfL_values : Nat → Int32), (PX4_waysDown fL_values iC_nodes iC_throneNode fC_kind fC_parts fC_partNodes = (Int32.ofNat u, nfL_values)) ∧ Bw dC dI A [(oc4 oL rL_values rL_supposed), (arI rL_values kL_values 18 nfL_values), (oc1 oC iC_nodes iC_words iC_chances iC_unsures iC_slips iC_throneNode iC_saidWorth iC_unit rC_kind rC_parts rC_partNodes rC_weights rC_weightSums rC_toldWorths rC_steps rC_below rC_above rC_unsureWords rC_unsureWorths), (arI rC_kind kC_kind 18 fC_kind), (arI rC_parts kC_parts 18 fC_parts), (arI rC_partNodes kC_partNodes 72 fC_partNodes)] [(kL_values, .int), (kC_kind, .int), (kC_parts, .int), (kC_partNodes, .int)] t) A) ([.ref oL, .ref oC] : List Value).toArray s 0 0 A) (F0 m 2 ls []) := by
    intro n_1043
    induction n_1043 with
    | zero => intro z_1041 f_1042 H locs ls hi0_n_1043 hm; exact absurd hm (by omega)
    | succ n_1043 ih_n_1043 =>
      intro z_1041 f_1042 H locs ls hi0_n_1043 hm hG hP hD hS hl
      have hG := hG.trans (HX4_waysDown_0_eq _ _ _ _ _ _ _ _)
      have rg_z_1041 := fb_rng z_1041
      refine lv_iload_n hx hb dX4_waysDown_2 rfl (lv_at hl 0 rfl) ?_
      refine lv_aload_n hx hb dX4_waysDown_3 rfl (lv_at hl 2 rfl) ?_
      refine va_get (D := (dC, dI)) (ci := 1) (v := .int iC_nodes) (C := RX1) (T := TX1) (N := 19) hx hb hts inX1 hown hK hP 2 rfl rfl 0 (by decide) (hts _ wd_616) (fun _ h9 => h9) rfl dX4_waysDown_4 ?_
      have rg_iC_nodes := fb_rng iC_nodes
      refine lv_icmp_ge (tgt := 78) hx hb dX4_waysDown_7 (by decide) (fun c_1044 => ?_) (fun c_1044 => ?_)
      · skip
        have hG := hG.trans (if_pos c_1044)
        have gc_1044 := ti_le c_1044 rfl rfl
        refine lv_aload_n hx hb dX4_waysDown_78 rfl (lv_at hl 1 rfl) ?_
        refine lv_aload_n hx hb dX4_waysDown_79 rfl (lv_at hl 2 rfl) ?_
        have hFc := va_free (wc := [(oc4 oL rL_values rL_supposed), (arI rL_values kL_values 18 f_1042), (oc1 oC iC_nodes iC_words iC_chances iC_unsures iC_slips iC_throneNode iC_saidWorth iC_unit rC_kind rC_parts rC_partNodes rC_weights rC_weightSums rC_toldWorths rC_steps rC_below rC_above rC_unsureWords rC_unsureWorths)]) hD hS hA [0, 1, 2] rfl
        refine va_calli (va_runV (As := [.ref oC]) (rest := []) ⟨hx, hb, hml, hown, hts⟩ (tX4_throneValue l dC dI _ oL rL_values f_1042 kL_values rL_supposed oC iC_nodes iC_words iC_chances iC_unsures iC_slips iC_throneNode iC_saidWorth iC_unit rC_kind rC_parts rC_partNodes rC_weights rC_weightSums rC_toldWorths rC_steps rC_below rC_above rC_unsureWords rC_unsureWorths (by first | exact b_iC_nodes | omega | decide) (by first | exact b_iC_unsures | omega | decide) (by first | exact b_iC_throneNode | omega | decide)) (cwV 1 hts (wd_V wd_629 wd_630 wd_631 wd_37 (wd_c wd_632)) rfl rfl rfl (by decide +kernel) ⟨Nat.le_of_ble_eq_true rfl, Nat.le_of_ble_eq_true rfl⟩) ⟨Pw.fb, va_recv hK hP (ci := 4) (q0 := 0) rfl rfl, fun U hU hW => Pw.to (hP.sub [0, 1, 2] rfl) (hD.sub [0, 1, 2] (by decide) rfl) (hK.sub [0] rfl) hE hS hFc hU hW⟩ rfl rfl hl.1 rfl (lv_room (Nat.le_of_ble_eq_true rfl)) dX4_waysDown_80 ⟨Nat.le_of_ble_eq_true rfl, Nat.le_of_ble_eq_true rfl⟩) hS (fun q _ h => hFc q h) hFc (fun r u t H locs ht hvm hw hB hz1 hk1 hS => ?_)
        have hru9 := hw.2
        have hw := hw.1
        obtain ⟨hP, hD, hK⟩ := Bw.go (ws' := [(arI rC_kind kC_kind 18 fC_kind), (arI rC_parts kC_parts 18 fC_parts), (arI rC_partNodes kC_partNodes 72 fC_partNodes), (oc4 oL rL_values rL_supposed), (arI rL_values kL_values 18 f_1042), (oc1 oC iC_nodes iC_words iC_chances iC_unsures iC_slips iC_throneNode iC_saidWorth iC_unit rC_kind rC_parts rC_partNodes rC_weights rC_weightSums rC_toldWorths rC_steps rC_below rC_above rC_unsureWords rC_unsureWorths)]) (tys' := [(kC_kind, .int), (kC_parts, .int), (kC_partNodes, .int), (kL_values, .int)]) hB rfl ht hvm hP hD hK [0, 1, 2] [3, 4, 5] rfl (by decide) (by decide) [1, 2, 3] hk1 hFc rfl rfl rfl
        clear hz1 hk1 hvm ht hB
        obtain ⟨x_1045, rfl⟩ : ∃ z, z = r := ⟨_, rfl⟩
        have hG := hG.trans (lt_eq hru9.symm)
        have rg_x_1045 := fb_rng x_1045
        exact W.iret hx hb hr (fun t ht hW => ⟨⟨_, (cI x_1045), rfl, ⟨⟨trivial, trivial⟩, (cI_of x_1045)⟩, ⟨f_1042, (cI_tup hG), Bw.to (hP.sub [3, 4, 5, 0, 1, 2] rfl) (hD.sub [3, 4, 5, 0, 1, 2] (by decide) rfl) (hK.sub [3, 0, 1, 2] rfl) ht hW⟩⟩, hS.F ht⟩) hS.2.2 dX4_waysDown_83
      · skip
        have hG := hG.trans (if_neg c_1044)
        have gc_1044 := ti_nle c_1044 rfl rfl
        refine lv_aload_n hx hb dX4_waysDown_10 rfl (lv_at hl 1 rfl) ?_
        refine va_get (D := (dC, dI)) (ci := 4) (v := .ref rL_values) (C := RX4) (T := TX4) (N := 2) hx hb hts inX4 hown hK hP 0 rfl rfl 0 (by decide) (hts _ wd_146) (fun _ h9 => h9) rfl dX4_waysDown_11 ?_
        refine lv_iload_n hx hb dX4_waysDown_14 rfl (lv_at hl 0 rfl) ?_
        refine lv_aload_n hx hb dX4_waysDown_15 rfl (lv_at hl 2 rfl) ?_
        refine va_get (D := (dC, dI)) (ci := 1) (v := .ref rC_kind) (C := RX1) (T := TX1) (N := 19) hx hb hts inX1 hown hK hP 2 rfl rfl 8 (by decide) (hts _ wd_617) (fun _ h9 => h9) rfl dX4_waysDown_16 ?_
        refine lv_iload_n hx hb dX4_waysDown_19 rfl (lv_at hl 0 rfl) ?_
        refine va_iald hx hb hK hP 3 1 rfl rfl (ti_in rfl (by omega) (by omega)) dX4_waysDown_20 ?_
        refine lv_topi (fun x_1046 ex_1046 => ?_)
        have hG := hG.trans (lt_eq ex_1046)
        have rg_x_1046 := fb_rng x_1046
        have kx_1046 : (fC_kind z_1041.toNatClampNeg).toInt = x_1046.toInt := by rw [ex_1046]
        refine lv_if_ne (tgt := 28) hx hb dX4_waysDown_21 (by decide) (fun c_1047 => ?_) (fun c_1047 => ?_)
        · skip
          have hG := hG.trans (if_neg c_1047)
          have gc_1047 := ti_ne c_1047 rfl kc_0
          refine lv_iconst (v := 0) hx hb dX4_waysDown_28 (by decide) ?_
          refine va_iast hx hb hK hP hD hS 1 0 rfl rfl (ti_in rfl (by omega) (by omega)) dX4_waysDown_29 (fun H locs hP hD hS => ?_)
          obtain ⟨f_1049, ef_1049⟩ : ∃ g : Nat → Int32, g = upd f_1042 z_1041.toNatClampNeg (0 : Int32) := ⟨_, rfl⟩
          rw [← ef_1049] at hP hD
          have hG := hG.trans (lt_eq ef_1049)
          obtain ⟨hP, hD⟩ := wl2 (ws' := [(oc4 oL rL_values rL_supposed), (arI rL_values kL_values 18 f_1049), (oc1 oC iC_nodes iC_words iC_chances iC_unsures iC_slips iC_throneNode iC_saidWorth iC_unit rC_kind rC_parts rC_partNodes rC_weights rC_weightSums rC_toldWorths rC_steps rC_below rC_above rC_unsureWords rC_unsureWorths), (arI rC_kind kC_kind 18 fC_kind), (arI rC_parts kC_parts 18 fC_parts), (arI rC_partNodes kC_partNodes 72 fC_partNodes)]) hP hD rfl
          refine lv_iconst (v := 0) hx hb dX4_waysDown_30 (by decide) ?_
          refine lv_istore_n (lv' := [(3, .int 0), (2, .int z_1041), (0, .ref oL), (1, .ref oC)]) hx hb dX4_waysDown_31 rfl hl (by decide) rfl (fun ls hl => ?_)
          have hl := lv_sub hl (l' := [(3, .int 0), (2, .int z_1041), (0, .ref oL), (1, .ref oC)]) [0, 1, 2, 3] rfl
          have key_n_1052 : ∀ (n_1052 : Nat) (z_1050 : Int32) (f_1051 : Nat → Int32) (H : Heap) (locs : List Loc) (ls : Array Slot), (0 ≤ z_1050.toInt ∧ z_1050.toInt ≤ 2147483647) → (2147483647 - z_1050.toInt).toNat < n_1052 → (PX4_waysDown fL_values iC_nodes iC_throneNode fC_kind fC_parts fC_partNodes = HX4_waysDown_1 fC_parts fC_partNodes z_1041 (fun (z_1041 : Int32) (f_1042 : Nat → Int32) => HX4_waysDown_0 iC_nodes iC_throneNode fC_kind fC_parts fC_partNodes n_1043 z_1041 f_1042) n_1052 z_1050 f_1051) → va_P (dC, dI) vwCl [(oc4 oL rL_values rL_supposed), (arI rL_values kL_values 18 f_1051), (oc1 oC iC_nodes iC_words iC_chances iC_unsures iC_slips iC_throneNode iC_saidWorth iC_unit rC_kind rC_parts rC_partNodes rC_weights rC_weightSums rC_toldWorths rC_steps rC_below rC_above rC_unsureWords rC_unsureWorths), (arI rC_kind kC_kind 18 fC_kind), (arI rC_parts kC_parts 18 fC_parts), (arI rC_partNodes kC_partNodes 72 fC_partNodes)] H → va_D A [(oc4 oL rL_values rL_supposed), (arI rL_values kL_values 18 f_1051), (oc1 oC iC_nodes iC_words iC_chances iC_unsures iC_slips iC_throneNode iC_saidWorth iC_unit rC_kind rC_parts rC_partNodes rC_weights rC_weightSums rC_toldWorths rC_steps rC_below rC_above rC_unsureWords rC_unsureWorths), (arI rC_kind kC_kind 18 fC_kind), (arI rC_parts kC_parts 18 fC_parts), (arI rC_partNodes kC_partNodes 72 fC_partNodes)] → va_S A s.heap H locs → lv_has ls 4 [(3, .int z_1050), (2, .int z_1041), (0, .ref oL), (1, .ref oC)] → W p l e (headSpec (Cond.code yX4_waysDown cX4_waysDown 4 (some .int) :: wG) ({ frames := 2, cells := 0, slots := 0, locals := 42 })).room s m ([.ref oL, .ref oC] : List Value).toArray below meth c H locs 0 0 (MQ below (va_Qi (fun (r : Int32) (u : Nat) => (True ∧ True) ∧ r = Int32.ofNat u) (fun (u : Nat) (t : State) => ∃ (nfL_values : Nat → Int32), (PX4_waysDown fL_values iC_nodes iC_throneNode fC_kind fC_parts fC_partNodes = (Int32.ofNat u, nfL_values)) ∧ Bw dC dI A [(oc4 oL rL_values rL_supposed), (arI rL_values kL_values 18 nfL_values), (oc1 oC iC_nodes iC_words iC_chances iC_unsures iC_slips iC_throneNode iC_saidWorth iC_unit rC_kind rC_parts rC_partNodes rC_weights rC_weightSums rC_toldWorths rC_steps rC_below rC_above rC_unsureWords rC_unsureWorths), (arI rC_kind kC_kind 18 fC_kind), (arI rC_parts kC_parts 18 fC_parts), (arI rC_partNodes kC_partNodes 72 fC_partNodes)] [(kL_values, .int), (kC_kind, .int), (kC_parts, .int), (kC_partNodes, .int)] t) A) ([.ref oL, .ref oC] : List Value).toArray s 0 0 A) (F0 m 32 ls []) := by
            intro n_1052
            induction n_1052 with
            | zero => intro z_1050 f_1051 H locs ls hi0_n_1052 hm; exact absurd hm (by omega)
            | succ n_1052 ih_n_1052 =>
              intro z_1050 f_1051 H locs ls hi0_n_1052 hm hG hP hD hS hl
              have hG := hG.trans (HX4_waysDown_1_eq _ _ _ _ _ _ _)
              have rg_z_1050 := fb_rng z_1050
              refine lv_iload_n hx hb dX4_waysDown_32 rfl (lv_at hl 0 rfl) ?_
              refine lv_aload_n hx hb dX4_waysDown_33 rfl (lv_at hl 3 rfl) ?_
              refine va_get (D := (dC, dI)) (ci := 1) (v := .ref rC_parts) (C := RX1) (T := TX1) (N := 19) hx hb hts inX1 hown hK hP 2 rfl rfl 9 (by decide) (hts _ wd_623) (fun _ h9 => h9) rfl dX4_waysDown_34 ?_
              refine lv_iload_n hx hb dX4_waysDown_37 rfl (lv_at hl 1 rfl) ?_
              refine va_iald hx hb hK hP 4 2 rfl rfl (ti_in rfl (by omega) (by omega)) dX4_waysDown_38 ?_
              refine lv_topi (fun x_1053 ex_1053 => ?_)
              have hG := hG.trans (lt_eq ex_1053)
              have rg_x_1053 := fb_rng x_1053
              have kx_1053 : (fC_parts z_1041.toNatClampNeg).toInt = x_1053.toInt := by rw [ex_1053]
              have ux_1053 := a_fC_parts _ (by have q := ti_cl (x := z_1041) rfl (by omega); omega : z_1041.toNatClampNeg < 18)
              rw [show fC_parts z_1041.toNatClampNeg = x_1053 from ex_1053.symm] at ux_1053
              refine lv_icmp_ge (tgt := 72) hx hb dX4_waysDown_39 (by decide) (fun c_1054 => ?_) (fun c_1054 => ?_)
              · skip
                have hG := hG.trans (if_pos c_1054)
                have gc_1054 := ti_le c_1054 rfl rfl
                obtain ⟨x_1055, ex_1055⟩ : ∃ z : Int32, z = z_1041 + Int32.ofInt 1 := ⟨_, rfl⟩
                have hG := hG.trans (lt_eq ex_1055)
                have vx_1055 : x_1055.toInt = z_1041.toInt + 1 := by have q := ti_add (y := 1) ex_1055 rfl kc_1 (by omega) (by omega); omega
                refine lv_iinc (v := x_1055) (lv' := [(2, .int x_1055), (3, .int z_1050), (0, .ref oL), (1, .ref oC)]) hx hb dX4_waysDown_72 hl (k := 1) rfl ex_1055.symm (by decide) rfl (fun ls hl => ?_)
                refine lv_goto (tgt := 2) hx hb dX4_waysDown_75 (by decide) ?_
                exact ih_n_1043 x_1055 f_1051 _ _ _  (by first | omega | decide | assumption) (by omega) hG (hP.sub [0, 1, 2, 3, 4, 5] rfl) (hD.sub [0, 1, 2, 3, 4, 5] (by decide) rfl) hS (lv_sub hl [0, 2, 3] rfl)
              · skip
                have hG := hG.trans (if_neg c_1054)
                have gc_1054 := ti_nle c_1054 rfl rfl
                refine lv_aload_n hx hb dX4_waysDown_42 rfl (lv_at hl 2 rfl) ?_
                refine va_get (D := (dC, dI)) (ci := 4) (v := .ref rL_values) (C := RX4) (T := TX4) (N := 2) hx hb hts inX4 hown hK hP 0 rfl rfl 0 (by decide) (hts _ wd_146) (fun _ h9 => h9) rfl dX4_waysDown_43 ?_
                refine lv_iload_n hx hb dX4_waysDown_46 rfl (lv_at hl 1 rfl) ?_
                refine lv_dup2_11 hx hb dX4_waysDown_47 rfl rfl ?_
                refine va_iald hx hb hK hP 1 0 rfl rfl (ti_in rfl (by omega) (by omega)) dX4_waysDown_48 ?_
                refine lv_topi (fun x_1056 ex_1056 => ?_)
                have hG := hG.trans (lt_eq ex_1056)
                have rg_x_1056 := fb_rng x_1056
                have kx_1056 : (f_1051 z_1041.toNatClampNeg).toInt = x_1056.toInt := by rw [ex_1056]
                refine lv_aload_n hx hb dX4_waysDown_49 rfl (lv_at hl 2 rfl) ?_
                refine va_get (D := (dC, dI)) (ci := 4) (v := .ref rL_values) (C := RX4) (T := TX4) (N := 2) hx hb hts inX4 hown hK hP 0 rfl rfl 0 (by decide) (hts _ wd_146) (fun _ h9 => h9) rfl dX4_waysDown_50 ?_
                refine lv_aload_n hx hb dX4_waysDown_53 rfl (lv_at hl 3 rfl) ?_
                refine va_get (D := (dC, dI)) (ci := 1) (v := .ref rC_partNodes) (C := RX1) (T := TX1) (N := 19) hx hb hts inX1 hown hK hP 2 rfl rfl 10 (by decide) (hts _ wd_624) (fun _ h9 => h9) rfl dX4_waysDown_54 ?_
                refine lv_iload_n hx hb dX4_waysDown_57 rfl (lv_at hl 1 rfl) ?_
                refine lv_iconst (v := 4) hx hb dX4_waysDown_58 (by decide) ?_
                refine lv_imul hx hb dX4_waysDown_59 ?_
                refine lv_topi (fun x_1057 ex_1057 => ?_)
                have hG := hG.trans (lt_eq ex_1057)
                have vx_1057 : x_1057.toInt = 4 * z_1041.toInt := by have q := ti_mul ex_1057 rfl kc_4 (by omega) (by omega); omega
                refine lv_iload_n hx hb dX4_waysDown_60 rfl (lv_at hl 0 rfl) ?_
                refine lv_iadd hx hb dX4_waysDown_61 ?_
                refine lv_topi (fun x_1058 ex_1058 => ?_)
                have hG := hG.trans (lt_eq ex_1058)
                have vx_1058 : x_1058.toInt = 4 * z_1041.toInt + z_1050.toInt := by have q := ti_add ex_1058 vx_1057 rfl (by omega) (by omega); omega
                refine va_iald hx hb hK hP 5 3 rfl rfl (ti_in vx_1058 (by omega) (by omega)) dX4_waysDown_62 ?_
                refine lv_topi (fun x_1059 ex_1059 => ?_)
                have hG := hG.trans (lt_eq ex_1059)
                have rg_x_1059 := fb_rng x_1059
                have kx_1059 : (fC_partNodes x_1058.toNatClampNeg).toInt = x_1059.toInt := by rw [ex_1059]
                have ux_1059 := a_fC_partNodes _ (by have q := ti_cl (x := x_1058) vx_1058 (by omega); omega : x_1058.toNatClampNeg < 72)
                rw [show fC_partNodes x_1058.toNatClampNeg = x_1059 from ex_1059.symm] at ux_1059
                refine va_iald hx hb hK hP 1 0 rfl rfl (ti_in rfl (by omega) (by omega)) dX4_waysDown_63 ?_
                refine lv_topi (fun x_1060 ex_1060 => ?_)
                have hG := hG.trans (lt_eq ex_1060)
                have rg_x_1060 := fb_rng x_1060
                have kx_1060 : (f_1051 x_1059.toNatClampNeg).toInt = x_1060.toInt := by rw [ex_1060]
                refine lv_iadd hx hb dX4_waysDown_64 ?_
                refine lv_topi (fun x_1061 ex_1061 => ?_)
                have hG := hG.trans (lt_eq ex_1061)
                have rg_x_1061 := fb_rng x_1061
                refine va_iast hx hb hK hP hD hS 1 0 rfl rfl (ti_in rfl (by omega) (by omega)) dX4_waysDown_65 (fun H locs hP hD hS => ?_)
                obtain ⟨f_1063, ef_1063⟩ : ∃ g : Nat → Int32, g = upd f_1051 z_1041.toNatClampNeg x_1061 := ⟨_, rfl⟩
                rw [← ef_1063] at hP hD
                have hG := hG.trans (lt_eq ef_1063)
                obtain ⟨hP, hD⟩ := wl2 (ws' := [(oc4 oL rL_values rL_supposed), (arI rL_values kL_values 18 f_1063), (oc1 oC iC_nodes iC_words iC_chances iC_unsures iC_slips iC_throneNode iC_saidWorth iC_unit rC_kind rC_parts rC_partNodes rC_weights rC_weightSums rC_toldWorths rC_steps rC_below rC_above rC_unsureWords rC_unsureWorths), (arI rC_kind kC_kind 18 fC_kind), (arI rC_parts kC_parts 18 fC_parts), (arI rC_partNodes kC_partNodes 72 fC_partNodes)]) hP hD rfl
                obtain ⟨x_1064, ex_1064⟩ : ∃ z : Int32, z = z_1050 + Int32.ofInt 1 := ⟨_, rfl⟩
                have hG := hG.trans (lt_eq ex_1064)
                have vx_1064 : x_1064.toInt = z_1050.toInt + 1 := by have q := ti_add (y := 1) ex_1064 rfl kc_1 (by omega) (by omega); omega
                refine lv_iinc (v := x_1064) (lv' := [(3, .int x_1064), (2, .int z_1041), (0, .ref oL), (1, .ref oC)]) hx hb dX4_waysDown_66 hl (k := 0) rfl ex_1064.symm (by decide) rfl (fun ls hl => ?_)
                refine lv_goto (tgt := 32) hx hb dX4_waysDown_69 (by decide) ?_
                exact ih_n_1052 x_1064 f_1063 _ _ _  (by first | omega | decide | assumption) (by omega) hG (hP.sub [0, 1, 2, 3, 4, 5] rfl) (hD.sub [0, 1, 2, 3, 4, 5] (by decide) rfl) hS (lv_sub hl [0, 1, 2, 3] rfl)
          exact key_n_1052 (((2147483647 - (0 : Int32).toInt).toNat) + 1) 0 f_1049 _ _ _  (by first | omega | decide | assumption | (have q0 := kc_0; have q1 := kc_1; omega)) (by omega) hG hP hD hS hl
        · skip
          have hG := hG.trans (if_pos c_1047)
          have gc_1047 := ti_eq c_1047 rfl kc_0
          refine lv_iconst (v := 1) hx hb dX4_waysDown_24 (by decide) ?_
          refine lv_goto (tgt := 29) hx hb dX4_waysDown_25 (by decide) ?_
          refine va_iast hx hb hK hP hD hS 1 0 rfl rfl (ti_in rfl (by omega) (by omega)) dX4_waysDown_29 (fun H locs hP hD hS => ?_)
          obtain ⟨f_1066, ef_1066⟩ : ∃ g : Nat → Int32, g = upd f_1042 z_1041.toNatClampNeg (1 : Int32) := ⟨_, rfl⟩
          rw [← ef_1066] at hP hD
          have hG := hG.trans (lt_eq ef_1066)
          obtain ⟨hP, hD⟩ := wl2 (ws' := [(oc4 oL rL_values rL_supposed), (arI rL_values kL_values 18 f_1066), (oc1 oC iC_nodes iC_words iC_chances iC_unsures iC_slips iC_throneNode iC_saidWorth iC_unit rC_kind rC_parts rC_partNodes rC_weights rC_weightSums rC_toldWorths rC_steps rC_below rC_above rC_unsureWords rC_unsureWorths), (arI rC_kind kC_kind 18 fC_kind), (arI rC_parts kC_parts 18 fC_parts), (arI rC_partNodes kC_partNodes 72 fC_partNodes)]) hP hD rfl
          refine lv_iconst (v := 0) hx hb dX4_waysDown_30 (by decide) ?_
          refine lv_istore_n (lv' := [(3, .int 0), (2, .int z_1041), (0, .ref oL), (1, .ref oC)]) hx hb dX4_waysDown_31 rfl hl (by decide) rfl (fun ls hl => ?_)
          have hl := lv_sub hl (l' := [(3, .int 0), (2, .int z_1041), (0, .ref oL), (1, .ref oC)]) [0, 1, 2, 3] rfl
          have key_n_1069 : ∀ (n_1069 : Nat) (z_1067 : Int32) (f_1068 : Nat → Int32) (H : Heap) (locs : List Loc) (ls : Array Slot), (0 ≤ z_1067.toInt ∧ z_1067.toInt ≤ 2147483647) → (2147483647 - z_1067.toInt).toNat < n_1069 → (PX4_waysDown fL_values iC_nodes iC_throneNode fC_kind fC_parts fC_partNodes = HX4_waysDown_1 fC_parts fC_partNodes z_1041 (fun (z_1041 : Int32) (f_1042 : Nat → Int32) => HX4_waysDown_0 iC_nodes iC_throneNode fC_kind fC_parts fC_partNodes n_1043 z_1041 f_1042) n_1069 z_1067 f_1068) → va_P (dC, dI) vwCl [(oc4 oL rL_values rL_supposed), (arI rL_values kL_values 18 f_1068), (oc1 oC iC_nodes iC_words iC_chances iC_unsures iC_slips iC_throneNode iC_saidWorth iC_unit rC_kind rC_parts rC_partNodes rC_weights rC_weightSums rC_toldWorths rC_steps rC_below rC_above rC_unsureWords rC_unsureWorths), (arI rC_kind kC_kind 18 fC_kind), (arI rC_parts kC_parts 18 fC_parts), (arI rC_partNodes kC_partNodes 72 fC_partNodes)] H → va_D A [(oc4 oL rL_values rL_supposed), (arI rL_values kL_values 18 f_1068), (oc1 oC iC_nodes iC_words iC_chances iC_unsures iC_slips iC_throneNode iC_saidWorth iC_unit rC_kind rC_parts rC_partNodes rC_weights rC_weightSums rC_toldWorths rC_steps rC_below rC_above rC_unsureWords rC_unsureWorths), (arI rC_kind kC_kind 18 fC_kind), (arI rC_parts kC_parts 18 fC_parts), (arI rC_partNodes kC_partNodes 72 fC_partNodes)] → va_S A s.heap H locs → lv_has ls 4 [(3, .int z_1067), (2, .int z_1041), (0, .ref oL), (1, .ref oC)] → W p l e (headSpec (Cond.code yX4_waysDown cX4_waysDown 4 (some .int) :: wG) ({ frames := 2, cells := 0, slots := 0, locals := 42 })).room s m ([.ref oL, .ref oC] : List Value).toArray below meth c H locs 0 0 (MQ below (va_Qi (fun (r : Int32) (u : Nat) => (True ∧ True) ∧ r = Int32.ofNat u) (fun (u : Nat) (t : State) => ∃ (nfL_values : Nat → Int32), (PX4_waysDown fL_values iC_nodes iC_throneNode fC_kind fC_parts fC_partNodes = (Int32.ofNat u, nfL_values)) ∧ Bw dC dI A [(oc4 oL rL_values rL_supposed), (arI rL_values kL_values 18 nfL_values), (oc1 oC iC_nodes iC_words iC_chances iC_unsures iC_slips iC_throneNode iC_saidWorth iC_unit rC_kind rC_parts rC_partNodes rC_weights rC_weightSums rC_toldWorths rC_steps rC_below rC_above rC_unsureWords rC_unsureWorths), (arI rC_kind kC_kind 18 fC_kind), (arI rC_parts kC_parts 18 fC_parts), (arI rC_partNodes kC_partNodes 72 fC_partNodes)] [(kL_values, .int), (kC_kind, .int), (kC_parts, .int), (kC_partNodes, .int)] t) A) ([.ref oL, .ref oC] : List Value).toArray s 0 0 A) (F0 m 32 ls []) := by
            intro n_1069
            induction n_1069 with
            | zero => intro z_1067 f_1068 H locs ls hi0_n_1069 hm; exact absurd hm (by omega)
            | succ n_1069 ih_n_1069 =>
              intro z_1067 f_1068 H locs ls hi0_n_1069 hm hG hP hD hS hl
              have hG := hG.trans (HX4_waysDown_1_eq _ _ _ _ _ _ _)
              have rg_z_1067 := fb_rng z_1067
              refine lv_iload_n hx hb dX4_waysDown_32 rfl (lv_at hl 0 rfl) ?_
              refine lv_aload_n hx hb dX4_waysDown_33 rfl (lv_at hl 3 rfl) ?_
              refine va_get (D := (dC, dI)) (ci := 1) (v := .ref rC_parts) (C := RX1) (T := TX1) (N := 19) hx hb hts inX1 hown hK hP 2 rfl rfl 9 (by decide) (hts _ wd_623) (fun _ h9 => h9) rfl dX4_waysDown_34 ?_
              refine lv_iload_n hx hb dX4_waysDown_37 rfl (lv_at hl 1 rfl) ?_
              refine va_iald hx hb hK hP 4 2 rfl rfl (ti_in rfl (by omega) (by omega)) dX4_waysDown_38 ?_
              refine lv_topi (fun x_1070 ex_1070 => ?_)
              have hG := hG.trans (lt_eq ex_1070)
              have rg_x_1070 := fb_rng x_1070
              have kx_1070 : (fC_parts z_1041.toNatClampNeg).toInt = x_1070.toInt := by rw [ex_1070]
              have ux_1070 := a_fC_parts _ (by have q := ti_cl (x := z_1041) rfl (by omega); omega : z_1041.toNatClampNeg < 18)
              rw [show fC_parts z_1041.toNatClampNeg = x_1070 from ex_1070.symm] at ux_1070
              refine lv_icmp_ge (tgt := 72) hx hb dX4_waysDown_39 (by decide) (fun c_1071 => ?_) (fun c_1071 => ?_)
              · skip
                have hG := hG.trans (if_pos c_1071)
                have gc_1071 := ti_le c_1071 rfl rfl
                obtain ⟨x_1072, ex_1072⟩ : ∃ z : Int32, z = z_1041 + Int32.ofInt 1 := ⟨_, rfl⟩
                have hG := hG.trans (lt_eq ex_1072)
                have vx_1072 : x_1072.toInt = z_1041.toInt + 1 := by have q := ti_add (y := 1) ex_1072 rfl kc_1 (by omega) (by omega); omega
                refine lv_iinc (v := x_1072) (lv' := [(2, .int x_1072), (3, .int z_1067), (0, .ref oL), (1, .ref oC)]) hx hb dX4_waysDown_72 hl (k := 1) rfl ex_1072.symm (by decide) rfl (fun ls hl => ?_)
                refine lv_goto (tgt := 2) hx hb dX4_waysDown_75 (by decide) ?_
                exact ih_n_1043 x_1072 f_1068 _ _ _  (by first | omega | decide | assumption) (by omega) hG (hP.sub [0, 1, 2, 3, 4, 5] rfl) (hD.sub [0, 1, 2, 3, 4, 5] (by decide) rfl) hS (lv_sub hl [0, 2, 3] rfl)
              · skip
                have hG := hG.trans (if_neg c_1071)
                have gc_1071 := ti_nle c_1071 rfl rfl
                refine lv_aload_n hx hb dX4_waysDown_42 rfl (lv_at hl 2 rfl) ?_
                refine va_get (D := (dC, dI)) (ci := 4) (v := .ref rL_values) (C := RX4) (T := TX4) (N := 2) hx hb hts inX4 hown hK hP 0 rfl rfl 0 (by decide) (hts _ wd_146) (fun _ h9 => h9) rfl dX4_waysDown_43 ?_
                refine lv_iload_n hx hb dX4_waysDown_46 rfl (lv_at hl 1 rfl) ?_
                refine lv_dup2_11 hx hb dX4_waysDown_47 rfl rfl ?_
                refine va_iald hx hb hK hP 1 0 rfl rfl (ti_in rfl (by omega) (by omega)) dX4_waysDown_48 ?_
                refine lv_topi (fun x_1073 ex_1073 => ?_)
                have hG := hG.trans (lt_eq ex_1073)
                have rg_x_1073 := fb_rng x_1073
                have kx_1073 : (f_1068 z_1041.toNatClampNeg).toInt = x_1073.toInt := by rw [ex_1073]
                refine lv_aload_n hx hb dX4_waysDown_49 rfl (lv_at hl 2 rfl) ?_
                refine va_get (D := (dC, dI)) (ci := 4) (v := .ref rL_values) (C := RX4) (T := TX4) (N := 2) hx hb hts inX4 hown hK hP 0 rfl rfl 0 (by decide) (hts _ wd_146) (fun _ h9 => h9) rfl dX4_waysDown_50 ?_
                refine lv_aload_n hx hb dX4_waysDown_53 rfl (lv_at hl 3 rfl) ?_
                refine va_get (D := (dC, dI)) (ci := 1) (v := .ref rC_partNodes) (C := RX1) (T := TX1) (N := 19) hx hb hts inX1 hown hK hP 2 rfl rfl 10 (by decide) (hts _ wd_624) (fun _ h9 => h9) rfl dX4_waysDown_54 ?_
                refine lv_iload_n hx hb dX4_waysDown_57 rfl (lv_at hl 1 rfl) ?_
                refine lv_iconst (v := 4) hx hb dX4_waysDown_58 (by decide) ?_
                refine lv_imul hx hb dX4_waysDown_59 ?_
                refine lv_topi (fun x_1074 ex_1074 => ?_)
                have hG := hG.trans (lt_eq ex_1074)
                have vx_1074 : x_1074.toInt = 4 * z_1041.toInt := by have q := ti_mul ex_1074 rfl kc_4 (by omega) (by omega); omega
                refine lv_iload_n hx hb dX4_waysDown_60 rfl (lv_at hl 0 rfl) ?_
                refine lv_iadd hx hb dX4_waysDown_61 ?_
                refine lv_topi (fun x_1075 ex_1075 => ?_)
                have hG := hG.trans (lt_eq ex_1075)
                have vx_1075 : x_1075.toInt = 4 * z_1041.toInt + z_1067.toInt := by have q := ti_add ex_1075 vx_1074 rfl (by omega) (by omega); omega
                refine va_iald hx hb hK hP 5 3 rfl rfl (ti_in vx_1075 (by omega) (by omega)) dX4_waysDown_62 ?_
                refine lv_topi (fun x_1076 ex_1076 => ?_)
                have hG := hG.trans (lt_eq ex_1076)
                have rg_x_1076 := fb_rng x_1076
                have kx_1076 : (fC_partNodes x_1075.toNatClampNeg).toInt = x_1076.toInt := by rw [ex_1076]
                have ux_1076 := a_fC_partNodes _ (by have q := ti_cl (x := x_1075) vx_1075 (by omega); omega : x_1075.toNatClampNeg < 72)
                rw [show fC_partNodes x_1075.toNatClampNeg = x_1076 from ex_1076.symm] at ux_1076
                refine va_iald hx hb hK hP 1 0 rfl rfl (ti_in rfl (by omega) (by omega)) dX4_waysDown_63 ?_
                refine lv_topi (fun x_1077 ex_1077 => ?_)
                have hG := hG.trans (lt_eq ex_1077)
                have rg_x_1077 := fb_rng x_1077
                have kx_1077 : (f_1068 x_1076.toNatClampNeg).toInt = x_1077.toInt := by rw [ex_1077]
                refine lv_iadd hx hb dX4_waysDown_64 ?_
                refine lv_topi (fun x_1078 ex_1078 => ?_)
                have hG := hG.trans (lt_eq ex_1078)
                have rg_x_1078 := fb_rng x_1078
                refine va_iast hx hb hK hP hD hS 1 0 rfl rfl (ti_in rfl (by omega) (by omega)) dX4_waysDown_65 (fun H locs hP hD hS => ?_)
                obtain ⟨f_1080, ef_1080⟩ : ∃ g : Nat → Int32, g = upd f_1068 z_1041.toNatClampNeg x_1078 := ⟨_, rfl⟩
                rw [← ef_1080] at hP hD
                have hG := hG.trans (lt_eq ef_1080)
                obtain ⟨hP, hD⟩ := wl2 (ws' := [(oc4 oL rL_values rL_supposed), (arI rL_values kL_values 18 f_1080), (oc1 oC iC_nodes iC_words iC_chances iC_unsures iC_slips iC_throneNode iC_saidWorth iC_unit rC_kind rC_parts rC_partNodes rC_weights rC_weightSums rC_toldWorths rC_steps rC_below rC_above rC_unsureWords rC_unsureWorths), (arI rC_kind kC_kind 18 fC_kind), (arI rC_parts kC_parts 18 fC_parts), (arI rC_partNodes kC_partNodes 72 fC_partNodes)]) hP hD rfl
                obtain ⟨x_1081, ex_1081⟩ : ∃ z : Int32, z = z_1067 + Int32.ofInt 1 := ⟨_, rfl⟩
                have hG := hG.trans (lt_eq ex_1081)
                have vx_1081 : x_1081.toInt = z_1067.toInt + 1 := by have q := ti_add (y := 1) ex_1081 rfl kc_1 (by omega) (by omega); omega
                refine lv_iinc (v := x_1081) (lv' := [(3, .int x_1081), (2, .int z_1041), (0, .ref oL), (1, .ref oC)]) hx hb dX4_waysDown_66 hl (k := 0) rfl ex_1081.symm (by decide) rfl (fun ls hl => ?_)
                refine lv_goto (tgt := 32) hx hb dX4_waysDown_69 (by decide) ?_
                exact ih_n_1069 x_1081 f_1080 _ _ _  (by first | omega | decide | assumption) (by omega) hG (hP.sub [0, 1, 2, 3, 4, 5] rfl) (hD.sub [0, 1, 2, 3, 4, 5] (by decide) rfl) hS (lv_sub hl [0, 1, 2, 3] rfl)
          exact key_n_1069 (((2147483647 - (0 : Int32).toInt).toNat) + 1) 0 f_1066 _ _ _  (by first | omega | decide | assumption | (have q0 := kc_0; have q1 := kc_1; omega)) (by omega) hG hP hD hS hl
  exact key_n_1043 (((2147483647 - (0 : Int32).toInt).toNat) + 1) 0 fL_values _ _ _  (by first | omega | decide | assumption | (have q0 := kc_0; have q1 := kc_1; omega)) (by omega) hG hP hD hS hl
set_option maxHeartbeats 4000000 in
set_option maxRecDepth 100000 in
theorem tX4_weighNightNone (l : Launch) (dC : Nat → ClassId) (dI : Nat → Nat → Nat) (sz : Nat) (oL : Nat) (rL_values : Nat) (fL_values : Nat → Int32) (kL_values : ClassId) (rL_supposed : Nat) (oC : Nat) (iC_nodes : Int32) (iC_words : Int32) (iC_chances : Int32) (iC_unsures : Int32) (iC_slips : Int32) (iC_throneNode : Int32) (iC_saidWorth : Int32) (iC_unit : Int32) (rC_kind : Nat) (fC_kind : Nat → Int32) (kC_kind : ClassId) (rC_parts : Nat) (rC_partNodes : Nat) (rC_weights : Nat) (rC_weightSums : Nat) (rC_toldWorths : Nat) (rC_steps : Nat) (rC_below : Nat) (rC_above : Nat) (rC_unsureWords : Nat) (rC_unsureWorths : Nat) (rW : Nat) (fW : Nat → Int32) (kW : ClassId) (b_iC_nodes : 0 ≤ iC_nodes.toInt ∧ iC_nodes.toInt ≤ 18) (b_iC_unsures : 0 ≤ iC_unsures.toInt ∧ iC_unsures.toInt ≤ 4) (b_iC_throneNode : (-1) ≤ iC_throneNode.toInt ∧ iC_throneNode.toInt ≤ 17)  : Met l yX4_weighNightNone (Cond.code yX4_weighNightNone cX4_weighNightNone 4 none :: wG) ({ frames := 0, cells := 0, slots := 0, locals := 0 }) (va_Pc [.ref oL, .ref oC, .ref rW] (Pw dC dI sz [(oc4 oL rL_values rL_supposed), (arI rL_values kL_values 18 fL_values), (oc1 oC iC_nodes iC_words iC_chances iC_unsures iC_slips iC_throneNode iC_saidWorth iC_unit rC_kind rC_parts rC_partNodes rC_weights rC_weightSums rC_toldWorths rC_steps rC_below rC_above rC_unsureWords rC_unsureWorths), (arI rC_kind kC_kind 18 fC_kind), (arI rW kW 18 fW)] [(kL_values, .int), (kC_kind, .int), (kW, .int)])) (va_Qv (fun (_ : Nat) => True) (fun (_ : Nat) (t : State) => ∃ (nfL_values : Nat → Int32), (PX4_weighNightNone fL_values iC_nodes iC_unit fC_kind fW = nfL_values) ∧ Bw dC dI (va_A [(oc4 oL rL_values rL_supposed), (arI rL_values kL_values 18 fL_values), (oc1 oC iC_nodes iC_words iC_chances iC_unsures iC_slips iC_throneNode iC_saidWorth iC_unit rC_kind rC_parts rC_partNodes rC_weights rC_weightSums rC_toldWorths rC_steps rC_below rC_above rC_unsureWords rC_unsureWorths), (arI rC_kind kC_kind 18 fC_kind), (arI rW kW 18 fW)] sz) [(oc4 oL rL_values rL_supposed), (arI rL_values kL_values 18 nfL_values), (oc1 oC iC_nodes iC_words iC_chances iC_unsures iC_slips iC_throneNode iC_saidWorth iC_unit rC_kind rC_parts rC_partNodes rC_weights rC_weightSums rC_toldWorths rC_steps rC_below rC_above rC_unsureWords rC_unsureWorths), (arI rC_kind kC_kind 18 fC_kind), (arI rW kW 18 fW)] [(kL_values, .int), (kC_kind, .int), (kW, .int)] t) (va_A [(oc4 oL rL_values rL_supposed), (arI rL_values kL_values 18 fL_values), (oc1 oC iC_nodes iC_words iC_chances iC_unsures iC_slips iC_throneNode iC_saidWorth iC_unit rC_kind rC_parts rC_partNodes rC_weights rC_weightSums rC_toldWorths rC_steps rC_below rC_above rC_unsureWords rC_unsureWorths), (arI rC_kind kC_kind 18 fC_kind), (arI rW kW 18 fW)] sz)) 0 0 (va_A [(oc4 oL rL_values rL_supposed), (arI rL_values kL_values 18 fL_values), (oc1 oC iC_nodes iC_words iC_chances iC_unsures iC_slips iC_throneNode iC_saidWorth iC_unit rC_kind rC_parts rC_partNodes rC_weights rC_weightSums rC_toldWorths rC_steps rC_below rC_above rC_unsureWords rC_unsureWorths), (arI rC_kind kC_kind 18 fC_kind), (arI rW kW 18 fW)] sz) := by
  refine Met.ofW (cc := cX4_weighNightNone) (maxL := 4) (ret := none) (by decide) rfl ?_
  intro p e s m args below meth c s₁ B hml hv
  obtain ⟨rfl, hsz, hP, hK, hD0, hE⟩ := hv
  have hx := B.exec
  have hb := B.bytes
  have hr := B.returns
  have hts : ∀ w ∈ wG, w.before ([.ref oL, .ref oC, .ref rW] : List Value).toArray s = true := fun w h => atoms_spec (ws := Cond.code yX4_weighNightNone cX4_weighNightNone 4 none :: wG) B.pre w (List.mem_cons_of_mem _ h)
  have hown : s.vm.findClass RX4 = some m.cls := findClass_of_methodNamed B.named
  have hlocks := B.notSynchronized
  subst hsz
  have hD := hD0.self (sz := s.heap.size)
  generalize hAe : va_A [(oc4 oL rL_values rL_supposed), (arI rL_values kL_values 18 fL_values), (oc1 oC iC_nodes iC_words iC_chances iC_unsures iC_slips iC_throneNode iC_saidWorth iC_unit rC_kind rC_parts rC_partNodes rC_weights rC_weightSums rC_toldWorths rC_steps rC_below rC_above rC_unsureWords rC_unsureWorths), (arI rC_kind kC_kind 18 fC_kind), (arI rW kW 18 fW)] s.heap.size = A at hD hE ⊢
  have hA : ∀ q : Nat, s.heap.size ≤ q → A q := fun q h => by rw [← hAe]; exact Or.inr h
  have hS : va_S A s.heap s.heap [] := va_S.rf
  have hl := lv_entry ([.ref oL, .ref oC, .ref rW]) (n := 4) (Nat.le_of_ble_eq_true rfl)
  rw [lg_entry_eq]
  generalize (lg_sl ([.ref oL, .ref oC, .ref rW]) ++ List.replicate (4 - (lg_sl ([.ref oL, .ref oC, .ref rW])).length) Slot.unset).toArray = ls at hl ⊢
  have hl : lv_has ls 4 [(0, .ref oL), (1, .ref oC), (2, .ref rW)] := hl
  have hG := PX4_weighNightNone_eq fL_values iC_nodes iC_unit fC_kind fW
  refine lv_iconst (v := 0) hx hb dX4_weighNightNone_0 (by decide) ?_
  refine lv_istore_n (lv' := [(3, .int 0), (0, .ref oL), (1, .ref oC), (2, .ref rW)]) hx hb dX4_weighNightNone_1 rfl hl (by decide) rfl (fun ls hl => ?_)
  have hl := lv_sub hl (l' := [(3, .int 0), (0, .ref oL), (1, .ref oC), (2, .ref rW)]) [0, 1, 2, 3] rfl
  have key_n_1105 : ∀ (n_1105 : Nat) (z_1103 : Int32) (f_1104 : Nat → Int32) (H : Heap) (locs : List Loc) (ls : Array Slot), (0 ≤ z_1103.toInt ∧ z_1103.toInt ≤ 2147483647) → (2147483647 - z_1103.toInt).toNat < n_1105 → (PX4_weighNightNone fL_values iC_nodes iC_unit fC_kind fW = HX4_weighNightNone_0 iC_nodes iC_unit fC_kind fW n_1105 z_1103 f_1104) → va_P (dC, dI) vwCl [(oc4 oL rL_values rL_supposed), (arI rL_values kL_values 18 f_1104), (oc1 oC iC_nodes iC_words iC_chances iC_unsures iC_slips iC_throneNode iC_saidWorth iC_unit rC_kind rC_parts rC_partNodes rC_weights rC_weightSums rC_toldWorths rC_steps rC_below rC_above rC_unsureWords rC_unsureWorths), (arI rC_kind kC_kind 18 fC_kind), (arI rW kW 18 fW)] H → va_D A [(oc4 oL rL_values rL_supposed), (arI rL_values kL_values 18 f_1104), (oc1 oC iC_nodes iC_words iC_chances iC_unsures iC_slips iC_throneNode iC_saidWorth iC_unit rC_kind rC_parts rC_partNodes rC_weights rC_weightSums rC_toldWorths rC_steps rC_below rC_above rC_unsureWords rC_unsureWorths), (arI rC_kind kC_kind 18 fC_kind), (arI rW kW 18 fW)] → va_S A s.heap H locs → lv_has ls 4 [(3, .int z_1103), (0, .ref oL), (1, .ref oC), (2, .ref rW)] → W p l e (headSpec (Cond.code yX4_weighNightNone cX4_weighNightNone 4 none :: wG) ({ frames := 0, cells := 0, slots := 0, locals := 0 })).room s m ([.ref oL, .ref oC, .ref rW] : List Value).toArray below meth c H locs 0 0 (MQ below (va_Qv (fun (_ : Nat) => True) (fun (_ : Nat) (t : State) => ∃ (nfL_values : Nat → Int32), (PX4_weighNightNone fL_values iC_nodes iC_unit fC_kind fW = nfL_values) ∧ Bw dC dI A [(oc4 oL rL_values rL_supposed), (arI rL_values kL_values 18 nfL_values), (oc1 oC iC_nodes iC_words iC_chances iC_unsures iC_slips iC_throneNode iC_saidWorth iC_unit rC_kind rC_parts rC_partNodes rC_weights rC_weightSums rC_toldWorths rC_steps rC_below rC_above rC_unsureWords rC_unsureWorths), (arI rC_kind kC_kind 18 fC_kind), (arI rW kW 18 fW)] [(kL_values, .int), (kC_kind, .int), (kW, .int)] t) A) ([.ref oL, .ref oC, .ref rW] : List Value).toArray s 0 0 A) (F0 m 2 ls []) := by
    intro n_1105
    induction n_1105 with
    | zero => intro z_1103 f_1104 H locs ls hi0_n_1105 hm; exact absurd hm (by omega)
    | succ n_1105 ih_n_1105 =>
      intro z_1103 f_1104 H locs ls hi0_n_1105 hm hG hP hD hS hl
      have hG := hG.trans (HX4_weighNightNone_0_eq _ _ _ _ _ _ _)
      have rg_z_1103 := fb_rng z_1103
      refine lv_iload_n hx hb dX4_weighNightNone_2 rfl (lv_at hl 0 rfl) ?_
      refine lv_aload_n hx hb dX4_weighNightNone_3 rfl (lv_at hl 2 rfl) ?_
      refine va_get (D := (dC, dI)) (ci := 1) (v := .int iC_nodes) (C := RX1) (T := TX1) (N := 19) hx hb hts inX1 hown hK hP 2 rfl rfl 0 (by decide) (hts _ wd_616) (fun _ h9 => h9) rfl dX4_weighNightNone_4 ?_
      have rg_iC_nodes := fb_rng iC_nodes
      refine lv_icmp_ge (tgt := 44) hx hb dX4_weighNightNone_7 (by decide) (fun c_1106 => ?_) (fun c_1106 => ?_)
      · skip
        have hG := hG.trans (if_pos c_1106)
        have gc_1106 := ti_le c_1106 rfl rfl
        exact W.vret hx hb hr (fun t ht hW => ⟨⟨0, rfl, trivial, ⟨f_1104, hG, Bw.to (hP.sub [0, 1, 2, 3, 4] rfl) (hD.sub [0, 1, 2, 3, 4] (by decide) rfl) (hK.sub [0, 1, 2] rfl) ht hW⟩⟩, hS.F ht⟩) hS.2.2 dX4_weighNightNone_44
      · skip
        have hG := hG.trans (if_neg c_1106)
        have gc_1106 := ti_nle c_1106 rfl rfl
        refine lv_aload_n hx hb dX4_weighNightNone_10 rfl (lv_at hl 1 rfl) ?_
        refine va_get (D := (dC, dI)) (ci := 4) (v := .ref rL_values) (C := RX4) (T := TX4) (N := 2) hx hb hts inX4 hown hK hP 0 rfl rfl 0 (by decide) (hts _ wd_146) (fun _ h9 => h9) rfl dX4_weighNightNone_11 ?_
        refine lv_iload_n hx hb dX4_weighNightNone_14 rfl (lv_at hl 0 rfl) ?_
        refine lv_aload_n hx hb dX4_weighNightNone_15 rfl (lv_at hl 2 rfl) ?_
        refine va_get (D := (dC, dI)) (ci := 1) (v := .ref rC_kind) (C := RX1) (T := TX1) (N := 19) hx hb hts inX1 hown hK hP 2 rfl rfl 8 (by decide) (hts _ wd_617) (fun _ h9 => h9) rfl dX4_weighNightNone_16 ?_
        refine lv_iload_n hx hb dX4_weighNightNone_19 rfl (lv_at hl 0 rfl) ?_
        refine va_iald hx hb hK hP 3 1 rfl rfl (ti_in rfl (by omega) (by omega)) dX4_weighNightNone_20 ?_
        refine lv_topi (fun x_1107 ex_1107 => ?_)
        have hG := hG.trans (lt_eq ex_1107)
        have rg_x_1107 := fb_rng x_1107
        have kx_1107 : (fC_kind z_1103.toNatClampNeg).toInt = x_1107.toInt := by rw [ex_1107]
        refine lv_if_ne (tgt := 30) hx hb dX4_weighNightNone_21 (by decide) (fun c_1108 => ?_) (fun c_1108 => ?_)
        · skip
          have hG := hG.trans (if_neg c_1108)
          have gc_1108 := ti_ne c_1108 rfl kc_0
          refine lv_bipush (v := 50) hx hb dX4_weighNightNone_30 (by decide) ?_
          refine lv_aload_n hx hb dX4_weighNightNone_32 rfl (lv_at hl 2 rfl) ?_
          refine va_get (D := (dC, dI)) (ci := 1) (v := .int iC_unit) (C := RX1) (T := TX1) (N := 19) hx hb hts inX1 hown hK hP 2 rfl rfl 7 (by decide) (hts _ wd_618) (fun _ h9 => h9) rfl dX4_weighNightNone_33 ?_
          have rg_iC_unit := fb_rng iC_unit
          refine lv_imul hx hb dX4_weighNightNone_36 ?_
          refine lv_topi (fun x_1109 ex_1109 => ?_)
          have hG := hG.trans (lt_eq ex_1109)
          have rg_x_1109 := fb_rng x_1109
          refine va_iast hx hb hK hP hD hS 1 0 rfl rfl (ti_in rfl (by omega) (by omega)) dX4_weighNightNone_37 (fun H locs hP hD hS => ?_)
          obtain ⟨f_1111, ef_1111⟩ : ∃ g : Nat → Int32, g = upd f_1104 z_1103.toNatClampNeg x_1109 := ⟨_, rfl⟩
          rw [← ef_1111] at hP hD
          have hG := hG.trans (lt_eq ef_1111)
          obtain ⟨hP, hD⟩ := wl2 (ws' := [(oc4 oL rL_values rL_supposed), (arI rL_values kL_values 18 f_1111), (oc1 oC iC_nodes iC_words iC_chances iC_unsures iC_slips iC_throneNode iC_saidWorth iC_unit rC_kind rC_parts rC_partNodes rC_weights rC_weightSums rC_toldWorths rC_steps rC_below rC_above rC_unsureWords rC_unsureWorths), (arI rC_kind kC_kind 18 fC_kind), (arI rW kW 18 fW)]) hP hD rfl
          obtain ⟨x_1112, ex_1112⟩ : ∃ z : Int32, z = z_1103 + Int32.ofInt 1 := ⟨_, rfl⟩
          have hG := hG.trans (lt_eq ex_1112)
          have vx_1112 : x_1112.toInt = z_1103.toInt + 1 := by have q := ti_add (y := 1) ex_1112 rfl kc_1 (by omega) (by omega); omega
          refine lv_iinc (v := x_1112) (lv' := [(3, .int x_1112), (0, .ref oL), (1, .ref oC), (2, .ref rW)]) hx hb dX4_weighNightNone_38 hl (k := 0) rfl ex_1112.symm (by decide) rfl (fun ls hl => ?_)
          refine lv_goto (tgt := 2) hx hb dX4_weighNightNone_41 (by decide) ?_
          exact ih_n_1105 x_1112 f_1111 _ _ _  (by first | omega | decide | assumption) (by omega) hG (hP.sub [0, 1, 2, 3, 4] rfl) (hD.sub [0, 1, 2, 3, 4] (by decide) rfl) hS (lv_sub hl [0, 1, 2, 3] rfl)
        · skip
          have hG := hG.trans (if_pos c_1108)
          have gc_1108 := ti_eq c_1108 rfl kc_0
          refine lv_aload_n hx hb dX4_weighNightNone_24 rfl (lv_at hl 3 rfl) ?_
          refine lv_iload_n hx hb dX4_weighNightNone_25 rfl (lv_at hl 0 rfl) ?_
          refine va_iald hx hb hK hP 4 2 rfl rfl (ti_in rfl (by omega) (by omega)) dX4_weighNightNone_26 ?_
          refine lv_topi (fun x_1113 ex_1113 => ?_)
          have hG := hG.trans (lt_eq ex_1113)
          have rg_x_1113 := fb_rng x_1113
          have kx_1113 : (fW z_1103.toNatClampNeg).toInt = x_1113.toInt := by rw [ex_1113]
          refine lv_goto (tgt := 32) hx hb dX4_weighNightNone_27 (by decide) ?_
          refine lv_aload_n hx hb dX4_weighNightNone_32 rfl (lv_at hl 2 rfl) ?_
          refine va_get (D := (dC, dI)) (ci := 1) (v := .int iC_unit) (C := RX1) (T := TX1) (N := 19) hx hb hts inX1 hown hK hP 2 rfl rfl 7 (by decide) (hts _ wd_618) (fun _ h9 => h9) rfl dX4_weighNightNone_33 ?_
          have rg_iC_unit := fb_rng iC_unit
          refine lv_imul hx hb dX4_weighNightNone_36 ?_
          refine lv_topi (fun x_1114 ex_1114 => ?_)
          have hG := hG.trans (lt_eq ex_1114)
          have rg_x_1114 := fb_rng x_1114
          refine va_iast hx hb hK hP hD hS 1 0 rfl rfl (ti_in rfl (by omega) (by omega)) dX4_weighNightNone_37 (fun H locs hP hD hS => ?_)
          obtain ⟨f_1116, ef_1116⟩ : ∃ g : Nat → Int32, g = upd f_1104 z_1103.toNatClampNeg x_1114 := ⟨_, rfl⟩
          rw [← ef_1116] at hP hD
          have hG := hG.trans (lt_eq ef_1116)
          obtain ⟨hP, hD⟩ := wl2 (ws' := [(oc4 oL rL_values rL_supposed), (arI rL_values kL_values 18 f_1116), (oc1 oC iC_nodes iC_words iC_chances iC_unsures iC_slips iC_throneNode iC_saidWorth iC_unit rC_kind rC_parts rC_partNodes rC_weights rC_weightSums rC_toldWorths rC_steps rC_below rC_above rC_unsureWords rC_unsureWorths), (arI rC_kind kC_kind 18 fC_kind), (arI rW kW 18 fW)]) hP hD rfl
          obtain ⟨x_1117, ex_1117⟩ : ∃ z : Int32, z = z_1103 + Int32.ofInt 1 := ⟨_, rfl⟩
          have hG := hG.trans (lt_eq ex_1117)
          have vx_1117 : x_1117.toInt = z_1103.toInt + 1 := by have q := ti_add (y := 1) ex_1117 rfl kc_1 (by omega) (by omega); omega
          refine lv_iinc (v := x_1117) (lv' := [(3, .int x_1117), (0, .ref oL), (1, .ref oC), (2, .ref rW)]) hx hb dX4_weighNightNone_38 hl (k := 0) rfl ex_1117.symm (by decide) rfl (fun ls hl => ?_)
          refine lv_goto (tgt := 2) hx hb dX4_weighNightNone_41 (by decide) ?_
          exact ih_n_1105 x_1117 f_1116 _ _ _  (by first | omega | decide | assumption) (by omega) hG (hP.sub [0, 1, 2, 3, 4] rfl) (hD.sub [0, 1, 2, 3, 4] (by decide) rfl) hS (lv_sub hl [0, 1, 2, 3] rfl)
  exact key_n_1105 (((2147483647 - (0 : Int32).toInt).toNat) + 1) 0 fL_values _ _ _  (by first | omega | decide | assumption | (have q0 := kc_0; have q1 := kc_1; omega)) (by omega) hG hP hD hS hl
set_option maxHeartbeats 4000000 in
set_option maxRecDepth 100000 in
theorem tX4_weighNextNight (l : Launch) (dC : Nat → ClassId) (dI : Nat → Nat → Nat) (sz : Nat) (oL : Nat) (rL_values : Nat) (fL_values : Nat → Int32) (kL_values : ClassId) (rL_supposed : Nat) (oC : Nat) (iC_nodes : Int32) (iC_words : Int32) (iC_chances : Int32) (iC_unsures : Int32) (iC_slips : Int32) (iC_throneNode : Int32) (iC_saidWorth : Int32) (iC_unit : Int32) (rC_kind : Nat) (fC_kind : Nat → Int32) (kC_kind : ClassId) (rC_parts : Nat) (fC_parts : Nat → Int32) (kC_parts : ClassId) (rC_partNodes : Nat) (fC_partNodes : Nat → Int32) (kC_partNodes : ClassId) (rC_weights : Nat) (fC_weights : Nat → Int32) (kC_weights : ClassId) (rC_weightSums : Nat) (fC_weightSums : Nat → Int32) (kC_weightSums : ClassId) (rC_toldWorths : Nat) (rC_steps : Nat) (rC_below : Nat) (rC_above : Nat) (rC_unsureWords : Nat) (rC_unsureWorths : Nat) (b_iC_nodes : 0 ≤ iC_nodes.toInt ∧ iC_nodes.toInt ≤ 18) (b_iC_unsures : 0 ≤ iC_unsures.toInt ∧ iC_unsures.toInt ≤ 4) (b_iC_throneNode : (-1) ≤ iC_throneNode.toInt ∧ iC_throneNode.toInt ≤ 17) (a_fC_parts : ∀ j : Nat, j < 18 → 0 ≤ (fC_parts j).toInt ∧ (fC_parts j).toInt ≤ 4) (a_fC_partNodes : ∀ j : Nat, j < 72 → 0 ≤ (fC_partNodes j).toInt ∧ (fC_partNodes j).toInt ≤ 17)  : Met l yX4_weighNextNight (Cond.code yX4_weighNextNight cX4_weighNextNight 3 none :: wG) ({ frames := 2, cells := 0, slots := 0, locals := 48 }) (va_Pc [.ref oL, .ref oC] (Pw dC dI sz [(oc4 oL rL_values rL_supposed), (arI rL_values kL_values 18 fL_values), (oc1 oC iC_nodes iC_words iC_chances iC_unsures iC_slips iC_throneNode iC_saidWorth iC_unit rC_kind rC_parts rC_partNodes rC_weights rC_weightSums rC_toldWorths rC_steps rC_below rC_above rC_unsureWords rC_unsureWorths), (arI rC_kind kC_kind 18 fC_kind), (arI rC_parts kC_parts 18 fC_parts), (arI rC_partNodes kC_partNodes 72 fC_partNodes), (arI rC_weights kC_weights 72 fC_weights), (arI rC_weightSums kC_weightSums 18 fC_weightSums)] [(kL_values, .int), (kC_kind, .int), (kC_parts, .int), (kC_partNodes, .int), (kC_weights, .int), (kC_weightSums, .int)])) (va_Qv (fun (_ : Nat) => True) (fun (_ : Nat) (t : State) => ∃ (nfL_values : Nat → Int32), (PX4_weighNextNight fL_values iC_nodes fC_kind fC_parts fC_partNodes fC_weights fC_weightSums = nfL_values) ∧ Bw dC dI (va_A [(oc4 oL rL_values rL_supposed), (arI rL_values kL_values 18 fL_values), (oc1 oC iC_nodes iC_words iC_chances iC_unsures iC_slips iC_throneNode iC_saidWorth iC_unit rC_kind rC_parts rC_partNodes rC_weights rC_weightSums rC_toldWorths rC_steps rC_below rC_above rC_unsureWords rC_unsureWorths), (arI rC_kind kC_kind 18 fC_kind), (arI rC_parts kC_parts 18 fC_parts), (arI rC_partNodes kC_partNodes 72 fC_partNodes), (arI rC_weights kC_weights 72 fC_weights), (arI rC_weightSums kC_weightSums 18 fC_weightSums)] sz) [(oc4 oL rL_values rL_supposed), (arI rL_values kL_values 18 nfL_values), (oc1 oC iC_nodes iC_words iC_chances iC_unsures iC_slips iC_throneNode iC_saidWorth iC_unit rC_kind rC_parts rC_partNodes rC_weights rC_weightSums rC_toldWorths rC_steps rC_below rC_above rC_unsureWords rC_unsureWorths), (arI rC_kind kC_kind 18 fC_kind), (arI rC_parts kC_parts 18 fC_parts), (arI rC_partNodes kC_partNodes 72 fC_partNodes), (arI rC_weights kC_weights 72 fC_weights), (arI rC_weightSums kC_weightSums 18 fC_weightSums)] [(kL_values, .int), (kC_kind, .int), (kC_parts, .int), (kC_partNodes, .int), (kC_weights, .int), (kC_weightSums, .int)] t) (va_A [(oc4 oL rL_values rL_supposed), (arI rL_values kL_values 18 fL_values), (oc1 oC iC_nodes iC_words iC_chances iC_unsures iC_slips iC_throneNode iC_saidWorth iC_unit rC_kind rC_parts rC_partNodes rC_weights rC_weightSums rC_toldWorths rC_steps rC_below rC_above rC_unsureWords rC_unsureWorths), (arI rC_kind kC_kind 18 fC_kind), (arI rC_parts kC_parts 18 fC_parts), (arI rC_partNodes kC_partNodes 72 fC_partNodes), (arI rC_weights kC_weights 72 fC_weights), (arI rC_weightSums kC_weightSums 18 fC_weightSums)] sz)) 0 0 (va_A [(oc4 oL rL_values rL_supposed), (arI rL_values kL_values 18 fL_values), (oc1 oC iC_nodes iC_words iC_chances iC_unsures iC_slips iC_throneNode iC_saidWorth iC_unit rC_kind rC_parts rC_partNodes rC_weights rC_weightSums rC_toldWorths rC_steps rC_below rC_above rC_unsureWords rC_unsureWorths), (arI rC_kind kC_kind 18 fC_kind), (arI rC_parts kC_parts 18 fC_parts), (arI rC_partNodes kC_partNodes 72 fC_partNodes), (arI rC_weights kC_weights 72 fC_weights), (arI rC_weightSums kC_weightSums 18 fC_weightSums)] sz) := by
  refine Met.ofW (cc := cX4_weighNextNight) (maxL := 3) (ret := none) (by decide) rfl ?_
  intro p e s m args below meth c s₁ B hml hv
  obtain ⟨rfl, hsz, hP, hK, hD0, hE⟩ := hv
  have hx := B.exec
  have hb := B.bytes
  have hr := B.returns
  have hts : ∀ w ∈ wG, w.before ([.ref oL, .ref oC] : List Value).toArray s = true := fun w h => atoms_spec (ws := Cond.code yX4_weighNextNight cX4_weighNextNight 3 none :: wG) B.pre w (List.mem_cons_of_mem _ h)
  have hown : s.vm.findClass RX4 = some m.cls := findClass_of_methodNamed B.named
  have hlocks := B.notSynchronized
  subst hsz
  have hD := hD0.self (sz := s.heap.size)
  generalize hAe : va_A [(oc4 oL rL_values rL_supposed), (arI rL_values kL_values 18 fL_values), (oc1 oC iC_nodes iC_words iC_chances iC_unsures iC_slips iC_throneNode iC_saidWorth iC_unit rC_kind rC_parts rC_partNodes rC_weights rC_weightSums rC_toldWorths rC_steps rC_below rC_above rC_unsureWords rC_unsureWorths), (arI rC_kind kC_kind 18 fC_kind), (arI rC_parts kC_parts 18 fC_parts), (arI rC_partNodes kC_partNodes 72 fC_partNodes), (arI rC_weights kC_weights 72 fC_weights), (arI rC_weightSums kC_weightSums 18 fC_weightSums)] s.heap.size = A at hD hE ⊢
  have hA : ∀ q : Nat, s.heap.size ≤ q → A q := fun q h => by rw [← hAe]; exact Or.inr h
  have hS : va_S A s.heap s.heap [] := va_S.rf
  have hl := lv_entry ([.ref oL, .ref oC]) (n := 3) (Nat.le_of_ble_eq_true rfl)
  rw [lg_entry_eq]
  generalize (lg_sl ([.ref oL, .ref oC]) ++ List.replicate (3 - (lg_sl ([.ref oL, .ref oC])).length) Slot.unset).toArray = ls at hl ⊢
  have hl : lv_has ls 3 [(0, .ref oL), (1, .ref oC)] := hl
  have hG := PX4_weighNextNight_eq fL_values iC_nodes fC_kind fC_parts fC_partNodes fC_weights fC_weightSums
  refine lv_aload_n hx hb dX4_weighNextNight_0 rfl (lv_at hl 1 rfl) ?_
  refine va_get (D := (dC, dI)) (ci := 1) (v := .int iC_nodes) (C := RX1) (T := TX1) (N := 19) hx hb hts inX1 hown hK hP 2 rfl rfl 0 (by decide) (hts _ wd_616) (fun _ h9 => h9) rfl dX4_weighNextNight_1 ?_
  refine lv_iconst (v := 1) hx hb dX4_weighNextNight_4 (by decide) ?_
  refine lv_isub hx hb dX4_weighNextNight_5 ?_
  refine lv_topi (fun x_1139 ex_1139 => ?_)
  have hG := hG.trans (lt_eq ex_1139)
  have vx_1139 : x_1139.toInt = iC_nodes.toInt + (-1) := by have q := ti_sub ex_1139 rfl kc_1 (by omega) (by omega); omega
  refine lv_istore_n (lv' := [(2, .int x_1139), (0, .ref oL), (1, .ref oC)]) hx hb dX4_weighNextNight_6 rfl hl (by decide) rfl (fun ls hl => ?_)
  have hl := lv_sub hl (l' := [(2, .int x_1139), (0, .ref oL), (1, .ref oC)]) [0, 1, 2] rfl
  have key_n_1142 : ∀ (n_1142 : Nat) (z_1140 : Int32) (f_1141 : Nat → Int32) (H : Heap) (locs : List Loc) (ls : Array Slot), ((-1) ≤ z_1140.toInt ∧ z_1140.toInt ≤ 17) → (z_1140.toInt - (-1)).toNat < n_1142 → (PX4_weighNextNight fL_values iC_nodes fC_kind fC_parts fC_partNodes fC_weights fC_weightSums = HX4_weighNextNight_0 fC_kind fC_parts fC_partNodes fC_weights fC_weightSums n_1142 z_1140 f_1141) → va_P (dC, dI) vwCl [(oc4 oL rL_values rL_supposed), (arI rL_values kL_values 18 f_1141), (oc1 oC iC_nodes iC_words iC_chances iC_unsures iC_slips iC_throneNode iC_saidWorth iC_unit rC_kind rC_parts rC_partNodes rC_weights rC_weightSums rC_toldWorths rC_steps rC_below rC_above rC_unsureWords rC_unsureWorths), (arI rC_kind kC_kind 18 fC_kind), (arI rC_parts kC_parts 18 fC_parts), (arI rC_partNodes kC_partNodes 72 fC_partNodes), (arI rC_weights kC_weights 72 fC_weights), (arI rC_weightSums kC_weightSums 18 fC_weightSums)] H → va_D A [(oc4 oL rL_values rL_supposed), (arI rL_values kL_values 18 f_1141), (oc1 oC iC_nodes iC_words iC_chances iC_unsures iC_slips iC_throneNode iC_saidWorth iC_unit rC_kind rC_parts rC_partNodes rC_weights rC_weightSums rC_toldWorths rC_steps rC_below rC_above rC_unsureWords rC_unsureWorths), (arI rC_kind kC_kind 18 fC_kind), (arI rC_parts kC_parts 18 fC_parts), (arI rC_partNodes kC_partNodes 72 fC_partNodes), (arI rC_weights kC_weights 72 fC_weights), (arI rC_weightSums kC_weightSums 18 fC_weightSums)] → va_S A s.heap H locs → lv_has ls 3 [(2, .int z_1140), (0, .ref oL), (1, .ref oC)] → W p l e (headSpec (Cond.code yX4_weighNextNight cX4_weighNextNight 3 none :: wG) ({ frames := 2, cells := 0, slots := 0, locals := 48 })).room s m ([.ref oL, .ref oC] : List Value).toArray below meth c H locs 0 0 (MQ below (va_Qv (fun (_ : Nat) => True) (fun (_ : Nat) (t : State) => ∃ (nfL_values : Nat → Int32), (PX4_weighNextNight fL_values iC_nodes fC_kind fC_parts fC_partNodes fC_weights fC_weightSums = nfL_values) ∧ Bw dC dI A [(oc4 oL rL_values rL_supposed), (arI rL_values kL_values 18 nfL_values), (oc1 oC iC_nodes iC_words iC_chances iC_unsures iC_slips iC_throneNode iC_saidWorth iC_unit rC_kind rC_parts rC_partNodes rC_weights rC_weightSums rC_toldWorths rC_steps rC_below rC_above rC_unsureWords rC_unsureWorths), (arI rC_kind kC_kind 18 fC_kind), (arI rC_parts kC_parts 18 fC_parts), (arI rC_partNodes kC_partNodes 72 fC_partNodes), (arI rC_weights kC_weights 72 fC_weights), (arI rC_weightSums kC_weightSums 18 fC_weightSums)] [(kL_values, .int), (kC_kind, .int), (kC_parts, .int), (kC_partNodes, .int), (kC_weights, .int), (kC_weightSums, .int)] t) A) ([.ref oL, .ref oC] : List Value).toArray s 0 0 A) (F0 m 7 ls []) := by
    intro n_1142
    induction n_1142 with
    | zero => intro z_1140 f_1141 H locs ls hi0_n_1142 hm; exact absurd hm (by omega)
    | succ n_1142 ih_n_1142 =>
      intro z_1140 f_1141 H locs ls hi0_n_1142 hm hG hP hD hS hl
      have hG := hG.trans (HX4_weighNextNight_0_eq _ _ _ _ _ _ _ _)
      refine lv_iload_n hx hb dX4_weighNextNight_7 rfl (lv_at hl 0 rfl) ?_
      refine lv_if_lt (tgt := 38) hx hb dX4_weighNextNight_8 (by decide) (fun c_1143 => ?_) (fun c_1143 => ?_)
      · skip
        have hG := hG.trans (if_pos c_1143)
        have gc_1143 := ti_lt c_1143 rfl kc_0
        exact W.vret hx hb hr (fun t ht hW => ⟨⟨0, rfl, trivial, ⟨f_1141, hG, Bw.to (hP.sub [0, 1, 2, 3, 4, 5, 6, 7] rfl) (hD.sub [0, 1, 2, 3, 4, 5, 6, 7] (by decide) rfl) (hK.sub [0, 1, 2, 3, 4, 5] rfl) ht hW⟩⟩, hS.F ht⟩) hS.2.2 dX4_weighNextNight_38
      · skip
        have hG := hG.trans (if_neg c_1143)
        have gc_1143 := ti_nlt c_1143 rfl kc_0
        refine lv_aload_n hx hb dX4_weighNextNight_11 rfl (lv_at hl 2 rfl) ?_
        refine va_get (D := (dC, dI)) (ci := 1) (v := .ref rC_kind) (C := RX1) (T := TX1) (N := 19) hx hb hts inX1 hown hK hP 2 rfl rfl 8 (by decide) (hts _ wd_617) (fun _ h9 => h9) rfl dX4_weighNextNight_12 ?_
        refine lv_iload_n hx hb dX4_weighNextNight_15 rfl (lv_at hl 0 rfl) ?_
        refine va_iald hx hb hK hP 3 1 rfl rfl (ti_in rfl (by omega) (by omega)) dX4_weighNextNight_16 ?_
        refine lv_topi (fun x_1144 ex_1144 => ?_)
        have hG := hG.trans (lt_eq ex_1144)
        have kx_1144 : (fC_kind z_1140.toNatClampNeg).toInt = x_1144.toInt := by rw [ex_1144]
        refine lv_if_eq (tgt := 32) hx hb dX4_weighNextNight_17 (by decide) (fun c_1145 => ?_) (fun c_1145 => ?_)
        · skip
          have hG := hG.trans (if_pos c_1145)
          have gc_1145 := ti_eq c_1145 rfl kc_0
          obtain ⟨x_1146, ex_1146⟩ : ∃ z : Int32, z = z_1140 + Int32.ofInt (-1) := ⟨_, rfl⟩
          have hG := hG.trans (lt_eq ex_1146)
          have vx_1146 : x_1146.toInt = z_1140.toInt + (-1) := by have q := ti_add (y := (-1)) ex_1146 rfl kc_m1 (by omega) (by omega); omega
          refine lv_iinc (v := x_1146) (lv' := [(2, .int x_1146), (0, .ref oL), (1, .ref oC)]) hx hb dX4_weighNextNight_32 hl (k := 0) rfl ex_1146.symm (by decide) rfl (fun ls hl => ?_)
          refine lv_goto (tgt := 7) hx hb dX4_weighNextNight_35 (by decide) ?_
          exact ih_n_1142 x_1146 f_1141 _ _ _  (by first | omega | decide | assumption) (by omega) hG (hP.sub [0, 1, 2, 3, 4, 5, 6, 7] rfl) (hD.sub [0, 1, 2, 3, 4, 5, 6, 7] (by decide) rfl) hS (lv_sub hl [0, 1, 2] rfl)
        · skip
          have hG := hG.trans (if_neg c_1145)
          have gc_1145 := ti_ne c_1145 rfl kc_0
          refine lv_aload_n hx hb dX4_weighNextNight_20 rfl (lv_at hl 1 rfl) ?_
          refine va_get (D := (dC, dI)) (ci := 4) (v := .ref rL_values) (C := RX4) (T := TX4) (N := 2) hx hb hts inX4 hown hK hP 0 rfl rfl 0 (by decide) (hts _ wd_146) (fun _ h9 => h9) rfl dX4_weighNextNight_21 ?_
          refine lv_iload_n hx hb dX4_weighNextNight_24 rfl (lv_at hl 0 rfl) ?_
          refine lv_aload_n hx hb dX4_weighNextNight_25 rfl (lv_at hl 1 rfl) ?_
          refine lv_aload_n hx hb dX4_weighNextNight_26 rfl (lv_at hl 2 rfl) ?_
          refine lv_iload_n hx hb dX4_weighNextNight_27 rfl (lv_at hl 0 rfl) ?_
          have hFc := va_free (wc := [(oc4 oL rL_values rL_supposed), (arI rL_values kL_values 18 f_1141), (oc1 oC iC_nodes iC_words iC_chances iC_unsures iC_slips iC_throneNode iC_saidWorth iC_unit rC_kind rC_parts rC_partNodes rC_weights rC_weightSums rC_toldWorths rC_steps rC_below rC_above rC_unsureWords rC_unsureWorths), (arI rC_kind kC_kind 18 fC_kind), (arI rC_parts kC_parts 18 fC_parts), (arI rC_partNodes kC_partNodes 72 fC_partNodes), (arI rC_weights kC_weights 72 fC_weights), (arI rC_weightSums kC_weightSums 18 fC_weightSums)]) hD hS hA [0, 1, 2, 3, 4, 5, 6, 7] rfl
          refine va_calli (va_runV (As := [.ref oC, .int z_1140]) (rest := [.int z_1140, .ref rL_values]) ⟨hx, hb, hml, hown, hts⟩ (tX4_joined l dC dI _ oL rL_values f_1141 kL_values rL_supposed oC iC_nodes iC_words iC_chances iC_unsures iC_slips iC_throneNode iC_saidWorth iC_unit rC_kind fC_kind kC_kind rC_parts fC_parts kC_parts rC_partNodes fC_partNodes kC_partNodes rC_weights fC_weights kC_weights rC_weightSums fC_weightSums kC_weightSums rC_toldWorths rC_steps rC_below rC_above rC_unsureWords rC_unsureWorths z_1140 (by first | exact b_iC_nodes | omega | decide) (by first | exact b_iC_unsures | omega | decide) (by first | exact b_iC_throneNode | omega | decide) a_fC_parts a_fC_partNodes (by first | omega | decide | assumption | (have q0 := kc_0; have q1 := kc_1; omega) | (intro h; exact absurd h (by decide)))) (cwV 2 hts (wd_V wd_619 wd_620 wd_621 wd_37 (wd_c wd_622)) rfl rfl rfl (by decide +kernel) ⟨Nat.le_of_ble_eq_true rfl, Nat.le_of_ble_eq_true rfl⟩) ⟨Pw.fb, va_recv hK hP (ci := 4) (q0 := 0) rfl rfl, fun U hU hW => Pw.to (hP.sub [0, 1, 2, 3, 4, 5, 6, 7] rfl) (hD.sub [0, 1, 2, 3, 4, 5, 6, 7] (by decide) rfl) (hK.sub [0, 1, 2, 3, 4, 5] rfl) hE hS hFc hU hW⟩ rfl rfl hl.1 rfl (lv_room (Nat.le_of_ble_eq_true rfl)) dX4_weighNextNight_28 ⟨Nat.le_of_ble_eq_true rfl, Nat.le_of_ble_eq_true rfl⟩) hS (fun q _ h => hFc q h) hFc (fun r u t H locs ht hvm hw hB hz1 hk1 hS => ?_)
          have hru9 := hw.2
          have hw := hw.1
          obtain ⟨hP, hD, hK⟩ := Bw.go (ws' := [(oc4 oL rL_values rL_supposed), (arI rL_values kL_values 18 f_1141), (oc1 oC iC_nodes iC_words iC_chances iC_unsures iC_slips iC_throneNode iC_saidWorth iC_unit rC_kind rC_parts rC_partNodes rC_weights rC_weightSums rC_toldWorths rC_steps rC_below rC_above rC_unsureWords rC_unsureWorths), (arI rC_kind kC_kind 18 fC_kind), (arI rC_parts kC_parts 18 fC_parts), (arI rC_partNodes kC_partNodes 72 fC_partNodes), (arI rC_weights kC_weights 72 fC_weights), (arI rC_weightSums kC_weightSums 18 fC_weightSums)]) (tys' := [(kL_values, .int), (kC_kind, .int), (kC_parts, .int), (kC_partNodes, .int), (kC_weights, .int), (kC_weightSums, .int)]) hB rfl ht hvm hP hD hK [0, 1, 2, 3, 4, 5, 6, 7] [] rfl (by decide) (by decide) [] hk1 hFc rfl rfl rfl
          clear hz1 hk1 hvm ht hB
          obtain ⟨x_1147, rfl⟩ : ∃ z, z = r := ⟨_, rfl⟩
          have hG := hG.trans (lt_eq hru9.symm)
          refine va_iast hx hb hK hP hD hS 1 0 rfl rfl (ti_in rfl (by omega) (by omega)) dX4_weighNextNight_31 (fun H locs hP hD hS => ?_)
          obtain ⟨f_1149, ef_1149⟩ : ∃ g : Nat → Int32, g = upd f_1141 z_1140.toNatClampNeg x_1147 := ⟨_, rfl⟩
          rw [← ef_1149] at hP hD
          have hG := hG.trans (lt_eq ef_1149)
          obtain ⟨hP, hD⟩ := wl2 (ws' := [(oc4 oL rL_values rL_supposed), (arI rL_values kL_values 18 f_1149), (oc1 oC iC_nodes iC_words iC_chances iC_unsures iC_slips iC_throneNode iC_saidWorth iC_unit rC_kind rC_parts rC_partNodes rC_weights rC_weightSums rC_toldWorths rC_steps rC_below rC_above rC_unsureWords rC_unsureWorths), (arI rC_kind kC_kind 18 fC_kind), (arI rC_parts kC_parts 18 fC_parts), (arI rC_partNodes kC_partNodes 72 fC_partNodes), (arI rC_weights kC_weights 72 fC_weights), (arI rC_weightSums kC_weightSums 18 fC_weightSums)]) hP hD rfl
          obtain ⟨x_1150, ex_1150⟩ : ∃ z : Int32, z = z_1140 + Int32.ofInt (-1) := ⟨_, rfl⟩
          have hG := hG.trans (lt_eq ex_1150)
          have vx_1150 : x_1150.toInt = z_1140.toInt + (-1) := by have q := ti_add (y := (-1)) ex_1150 rfl kc_m1 (by omega) (by omega); omega
          refine lv_iinc (v := x_1150) (lv' := [(2, .int x_1150), (0, .ref oL), (1, .ref oC)]) hx hb dX4_weighNextNight_32 hl (k := 0) rfl ex_1150.symm (by decide) rfl (fun ls hl => ?_)
          refine lv_goto (tgt := 7) hx hb dX4_weighNextNight_35 (by decide) ?_
          exact ih_n_1142 x_1150 f_1149 _ _ _  (by first | omega | decide | assumption) (by omega) hG (hP.sub [0, 1, 2, 3, 4, 5, 6, 7] rfl) (hD.sub [0, 1, 2, 3, 4, 5, 6, 7] (by decide) rfl) hS (lv_sub hl [0, 1, 2] rfl)
  exact key_n_1142 (((x_1139.toInt - (-1)).toNat) + 1) x_1139 fL_values _ _ _  (by first | omega | decide | assumption | (have q0 := kc_0; have q1 := kc_1; omega)) (by omega) hG hP hD hS hl
