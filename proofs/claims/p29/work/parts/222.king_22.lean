set_option maxHeartbeats 4000000 in
set_option maxRecDepth 100000 in
theorem tX6_night (l : Launch) (dC : Nat → ClassId) (dI : Nat → Nat → Nat) (sz : Nat) (oK : Nat) (oR : Nat) (oC : Nat) (oS : Nat) (oT : Nat) (rK_images : Nat) (iK_imageCount : Int32) (oA : Nat) (oH : Nat) (oL : Nat) (iK_refusal : Int32) (iK_latestFault : Int32) (iK_latestPlace : Int32) (iC_nodes : Int32) (iC_words : Int32) (iC_chances : Int32) (iC_unsures : Int32) (iC_slips : Int32) (iC_throneNode : Int32) (iC_saidWorth : Int32) (iC_unit : Int32) (rC_kind : Nat) (fC_kind : Nat → Int32) (kC_kind : ClassId) (rC_parts : Nat) (fC_parts : Nat → Int32) (kC_parts : ClassId) (rC_partNodes : Nat) (fC_partNodes : Nat → Int32) (kC_partNodes : ClassId) (rC_weights : Nat) (fC_weights : Nat → Int32) (kC_weights : ClassId) (rC_weightSums : Nat) (fC_weightSums : Nat → Int32) (kC_weightSums : ClassId) (rC_toldWorths : Nat) (rC_steps : Nat) (rC_below : Nat) (rC_above : Nat) (rC_unsureWords : Nat) (rC_unsureWorths : Nat) (rS_worths : Nat) (fS_worths : Nat → Int32) (kS_worths : ClassId) (rS_order : Nat) (rS_left : Nat) (rL_values : Nat) (fL_values : Nat → Int32) (kL_values : ClassId) (rL_supposed : Nat) (p0 : Int32) (p1 : Int32) (b_iK_imageCount : 0 ≤ iK_imageCount.toInt ∧ iK_imageCount.toInt ≤ 3) (b_iC_nodes : 0 ≤ iC_nodes.toInt ∧ iC_nodes.toInt ≤ 18) (b_iC_unsures : 0 ≤ iC_unsures.toInt ∧ iC_unsures.toInt ≤ 4) (b_iC_throneNode : (-1) ≤ iC_throneNode.toInt ∧ iC_throneNode.toInt ≤ 17) (a_fC_parts : ∀ j : Nat, j < 18 → 0 ≤ (fC_parts j).toInt ∧ (fC_parts j).toInt ≤ 4) (a_fC_partNodes : ∀ j : Nat, j < 72 → 0 ≤ (fC_partNodes j).toInt ∧ (fC_partNodes j).toInt ≤ 17) (hthr : iC_nodes.toInt ≤ 0 ∨ 0 ≤ iC_throneNode.toInt) : Met l yX6_night (Cond.code yX6_night cX6_night 4 (some .long) :: wG) ({ frames := 3, cells := 0, slots := 0, locals := 70 }) (va_Pc [.ref oK, .int p0, .int p1] (Pw dC dI sz [(oc6 oK oR oC oS oT rK_images iK_imageCount oA oH oL iK_refusal iK_latestFault iK_latestPlace), (oc1 oC iC_nodes iC_words iC_chances iC_unsures iC_slips iC_throneNode iC_saidWorth iC_unit rC_kind rC_parts rC_partNodes rC_weights rC_weightSums rC_toldWorths rC_steps rC_below rC_above rC_unsureWords rC_unsureWorths), (arI rC_kind kC_kind 18 fC_kind), (arI rC_parts kC_parts 18 fC_parts), (arI rC_partNodes kC_partNodes 72 fC_partNodes), (arI rC_weights kC_weights 72 fC_weights), (arI rC_weightSums kC_weightSums 18 fC_weightSums), (oc5 oS rS_worths rS_order rS_left), (arI rS_worths kS_worths 18 fS_worths), (oc4 oL rL_values rL_supposed), (arI rL_values kL_values 18 fL_values)] [(kC_kind, .int), (kC_parts, .int), (kC_partNodes, .int), (kC_weights, .int), (kC_weightSums, .int), (kS_worths, .int), (kL_values, .int)])) (va_Ql (fun (r : Int64) (u : Nat) => (True ∧ True) ∧ r = Int64.ofNat u) (fun (u : Nat) (t : State) => ∃ (niK_refusal : Int32) (nfL_values : Nat → Int32), (PX6_night iC_nodes iC_throneNode iC_unit fC_kind fC_parts fC_partNodes fC_weights fC_weightSums fS_worths fL_values p0 p1 = (Int64.ofNat u, niK_refusal, nfL_values)) ∧ Bw dC dI (va_A [(oc6 oK oR oC oS oT rK_images iK_imageCount oA oH oL iK_refusal iK_latestFault iK_latestPlace), (oc1 oC iC_nodes iC_words iC_chances iC_unsures iC_slips iC_throneNode iC_saidWorth iC_unit rC_kind rC_parts rC_partNodes rC_weights rC_weightSums rC_toldWorths rC_steps rC_below rC_above rC_unsureWords rC_unsureWorths), (arI rC_kind kC_kind 18 fC_kind), (arI rC_parts kC_parts 18 fC_parts), (arI rC_partNodes kC_partNodes 72 fC_partNodes), (arI rC_weights kC_weights 72 fC_weights), (arI rC_weightSums kC_weightSums 18 fC_weightSums), (oc5 oS rS_worths rS_order rS_left), (arI rS_worths kS_worths 18 fS_worths), (oc4 oL rL_values rL_supposed), (arI rL_values kL_values 18 fL_values)] sz) [(oc6 oK oR oC oS oT rK_images iK_imageCount oA oH oL niK_refusal iK_latestFault iK_latestPlace), (oc1 oC iC_nodes iC_words iC_chances iC_unsures iC_slips iC_throneNode iC_saidWorth iC_unit rC_kind rC_parts rC_partNodes rC_weights rC_weightSums rC_toldWorths rC_steps rC_below rC_above rC_unsureWords rC_unsureWorths), (arI rC_kind kC_kind 18 fC_kind), (arI rC_parts kC_parts 18 fC_parts), (arI rC_partNodes kC_partNodes 72 fC_partNodes), (arI rC_weights kC_weights 72 fC_weights), (arI rC_weightSums kC_weightSums 18 fC_weightSums), (oc5 oS rS_worths rS_order rS_left), (arI rS_worths kS_worths 18 fS_worths), (oc4 oL rL_values rL_supposed), (arI rL_values kL_values 18 nfL_values)] [(kC_kind, .int), (kC_parts, .int), (kC_partNodes, .int), (kC_weights, .int), (kC_weightSums, .int), (kS_worths, .int), (kL_values, .int)] t) (va_A [(oc6 oK oR oC oS oT rK_images iK_imageCount oA oH oL iK_refusal iK_latestFault iK_latestPlace), (oc1 oC iC_nodes iC_words iC_chances iC_unsures iC_slips iC_throneNode iC_saidWorth iC_unit rC_kind rC_parts rC_partNodes rC_weights rC_weightSums rC_toldWorths rC_steps rC_below rC_above rC_unsureWords rC_unsureWorths), (arI rC_kind kC_kind 18 fC_kind), (arI rC_parts kC_parts 18 fC_parts), (arI rC_partNodes kC_partNodes 72 fC_partNodes), (arI rC_weights kC_weights 72 fC_weights), (arI rC_weightSums kC_weightSums 18 fC_weightSums), (oc5 oS rS_worths rS_order rS_left), (arI rS_worths kS_worths 18 fS_worths), (oc4 oL rL_values rL_supposed), (arI rL_values kL_values 18 fL_values)] sz)) 0 0 (va_A [(oc6 oK oR oC oS oT rK_images iK_imageCount oA oH oL iK_refusal iK_latestFault iK_latestPlace), (oc1 oC iC_nodes iC_words iC_chances iC_unsures iC_slips iC_throneNode iC_saidWorth iC_unit rC_kind rC_parts rC_partNodes rC_weights rC_weightSums rC_toldWorths rC_steps rC_below rC_above rC_unsureWords rC_unsureWorths), (arI rC_kind kC_kind 18 fC_kind), (arI rC_parts kC_parts 18 fC_parts), (arI rC_partNodes kC_partNodes 72 fC_partNodes), (arI rC_weights kC_weights 72 fC_weights), (arI rC_weightSums kC_weightSums 18 fC_weightSums), (oc5 oS rS_worths rS_order rS_left), (arI rS_worths kS_worths 18 fS_worths), (oc4 oL rL_values rL_supposed), (arI rL_values kL_values 18 fL_values)] sz) := by
  refine Met.ofW (cc := cX6_night) (maxL := 4) (ret := (some .long)) pnX6 rfl ?_
  intro p e s m args below meth c s₁ B hml hv
  obtain ⟨rfl, hsz, hP, hK, hD0, hE⟩ := hv
  have hx := B.exec
  have hb := B.bytes
  have hr := B.returns
  have hts : ∀ w ∈ wG, w.before ([.ref oK, .int p0, .int p1] : List Value).toArray s = true := fun w h => atoms_spec (ws := Cond.code yX6_night cX6_night 4 (some .long) :: wG) B.pre w (List.mem_cons_of_mem _ h)
  have hown : s.vm.findClass RX6 = some m.cls := own_of B.named rfl
  have hlocks := B.notSynchronized
  subst hsz
  have hD := hD0.self (sz := s.heap.size)
  generalize hAe : va_A [(oc6 oK oR oC oS oT rK_images iK_imageCount oA oH oL iK_refusal iK_latestFault iK_latestPlace), (oc1 oC iC_nodes iC_words iC_chances iC_unsures iC_slips iC_throneNode iC_saidWorth iC_unit rC_kind rC_parts rC_partNodes rC_weights rC_weightSums rC_toldWorths rC_steps rC_below rC_above rC_unsureWords rC_unsureWorths), (arI rC_kind kC_kind 18 fC_kind), (arI rC_parts kC_parts 18 fC_parts), (arI rC_partNodes kC_partNodes 72 fC_partNodes), (arI rC_weights kC_weights 72 fC_weights), (arI rC_weightSums kC_weightSums 18 fC_weightSums), (oc5 oS rS_worths rS_order rS_left), (arI rS_worths kS_worths 18 fS_worths), (oc4 oL rL_values rL_supposed), (arI rL_values kL_values 18 fL_values)] s.heap.size = A at hD hE ⊢
  have hA : ∀ q : Nat, s.heap.size ≤ q → A q := fun q h => by rw [← hAe]; exact Or.inr h
  have hS : va_S A s.heap s.heap [] := va_S.rf
  have hl := lv_entry ([.ref oK, .int p0, .int p1]) (n := 4) (Nat.le_of_ble_eq_true rfl)
  rw [lg_entry_eq]
  generalize (lg_sl ([.ref oK, .int p0, .int p1]) ++ List.replicate (4 - (lg_sl ([.ref oK, .int p0, .int p1])).length) Slot.unset).toArray = ls at hl ⊢
  have hl : lv_has ls 4 [(0, .ref oK), (1, .int p0), (2, .int p1)] := hl
  have hG := PX6_night_eq iC_nodes iC_throneNode iC_unit fC_kind fC_parts fC_partNodes fC_weights fC_weightSums fS_worths fL_values p0 p1
  have rg_p0 := fb_rng p0
  have rg_p1 := fb_rng p1
  refine lv_aload_n hx hb dX6_night_0 rfl (lv_at hl 0 rfl) ?_
  refine lv_iload_n hx hb dX6_night_1 rfl (lv_at hl 1 rfl) ?_
  refine lv_iconst (v := 0) hx hb dX6_night_2 (by decide) ?_
  refine lv_bipush (v := 9) hx hb dX6_night_3 (by decide) ?_
  have hMs := ml_of hD [true, true, false, false, false, false, false, false, false, false, false] (wc := [(oc6 oK oR oC oS oT rK_images iK_imageCount oA oH oL iK_refusal iK_latestFault iK_latestPlace), (oc1 oC iC_nodes iC_words iC_chances iC_unsures iC_slips iC_throneNode iC_saidWorth iC_unit rC_kind rC_parts rC_partNodes rC_weights rC_weightSums rC_toldWorths rC_steps rC_below rC_above rC_unsureWords rC_unsureWorths)]) rfl
  have hFc := va_freeM hD hS hA _ hMs
  refine va_calli (va_runV (As := [.int p0, .int 0, .int 9]) (rest := []) ⟨hx, hb, hml, hown, hts⟩ (tX6_lacksNumber l dC dI _ oK oR oC oS oT rK_images iK_imageCount oA oH oL iK_refusal iK_latestFault iK_latestPlace iC_nodes iC_words iC_chances iC_unsures iC_slips iC_throneNode iC_saidWorth iC_unit rC_kind rC_parts rC_partNodes rC_weights rC_weightSums rC_toldWorths rC_steps rC_below rC_above rC_unsureWords rC_unsureWorths p0 0 9 b_iK_imageCount b_iC_nodes b_iC_unsures b_iC_throneNode) (cwV 3 hts (wd_V wd_866 wd_867 wd_868 wd_2 (wd_c wd_869)) rfl rfl rfl dv_yX6_lacksNumber_3 ⟨Nat.le_of_ble_eq_true rfl, Nat.le_of_ble_eq_true rfl⟩) ⟨Pw.fb, recvX6 hK hP (q0 := 0) rfl, fun U hU hW => Pw.to (hP.ms _ hMs) (hD.ms _ hMs) (hK.ms [false, false, false, false, false, false, false] rfl) hE hS hFc hU hW⟩ rfl rfl hl.1 rfl (lv_room (Nat.le_of_ble_eq_true rfl)) dX6_night_5 ⟨Nat.le_of_ble_eq_true rfl, Nat.le_of_ble_eq_true rfl⟩) hS (fun q _ h => hFc q h) hFc (fun r u t H locs ht hvm hw hB hz1 hk1 hS => ?_)
  have hru9 := hw.2
  have hw := hw.1
  refine ex_1_1 hB (fun x_5338 e_x_5338_0 hB => ?_)
  obtain ⟨hP, hD⟩ := Bw.goN (ws' := [(oc6 oK oR oC oS oT rK_images iK_imageCount oA oH oL x_5338 iK_latestFault iK_latestPlace), (oc1 oC iC_nodes iC_words iC_chances iC_unsures iC_slips iC_throneNode iC_saidWorth iC_unit rC_kind rC_parts rC_partNodes rC_weights rC_weightSums rC_toldWorths rC_steps rC_below rC_above rC_unsureWords rC_unsureWorths), (arI rC_kind kC_kind 18 fC_kind), (arI rC_parts kC_parts 18 fC_parts), (arI rC_partNodes kC_partNodes 72 fC_partNodes), (arI rC_weights kC_weights 72 fC_weights), (arI rC_weightSums kC_weightSums 18 fC_weightSums), (oc5 oS rS_worths rS_order rS_left), (arI rS_worths kS_worths 18 fS_worths), (oc4 oL rL_values rL_supposed), (arI rL_values kL_values 18 fL_values)]) hB rfl ht hP hD _ hMs hk1 hFc rfl
  clear hz1 hk1 hvm ht hB hMs
  have rg_x_5338 := fb_rng x_5338
  rw [← hru9] at e_x_5338_0
  rcases hw.2 with ⟨rfl, hc_5339⟩ | ⟨rfl, hc_5339⟩
  · skip
    have rg_iC_nodes := fb_rng iC_nodes
    have hG := hG.trans (un2_eq e_x_5338_0)
    have hG := hG.trans (if_pos rfl)
    refine lv_if_eq (tgt := 15) hx hb dX6_night_8 (by decide) (fun _ => ?_) (fun c => absurd c (by decide))
    refine lv_aload_n hx hb dX6_night_15 rfl (lv_at hl 0 rfl) ?_
    refine va_get (D := (dC, dI)) (ci := 6) (v := .ref oL) (C := RX6) (T := TX6) (N := 12) hx hb hts inX6 hown hK hP 0 rfl rfl 8 (by decide) (hts _ wd_38) (fun _ h9 => h9) rfl dX6_night_16 ?_
    refine lv_aload_n hx hb dX6_night_19 rfl (lv_at hl 0 rfl) ?_
    refine va_get (D := (dC, dI)) (ci := 6) (v := .ref oC) (C := RX6) (T := TX6) (N := 12) hx hb hts inX6 hown hK hP 0 rfl rfl 1 (by decide) (hts _ wd_20) (fun _ h9 => h9) rfl dX6_night_20 ?_
    refine lv_aload_n hx hb dX6_night_23 rfl (lv_at hl 0 rfl) ?_
    refine va_get (D := (dC, dI)) (ci := 6) (v := .ref oS) (C := RX6) (T := TX6) (N := 12) hx hb hts inX6 hown hK hP 0 rfl rfl 2 (by decide) (hts _ wd_24) (fun _ h9 => h9) rfl dX6_night_24 ?_
    refine va_get (D := (dC, dI)) (ci := 5) (v := .ref rS_worths) (C := RX5) (T := TX5) (N := 3) hx hb hts inX5 hown hK hP 7 rfl rfl 0 (by decide) (hts _ wd_609) (fun _ h9 => h9) rfl dX6_night_27 ?_
    have hFc := va_free (wc := [(oc4 oL rL_values rL_supposed), (arI rL_values kL_values 18 fL_values), (oc1 oC iC_nodes iC_words iC_chances iC_unsures iC_slips iC_throneNode iC_saidWorth iC_unit rC_kind rC_parts rC_partNodes rC_weights rC_weightSums rC_toldWorths rC_steps rC_below rC_above rC_unsureWords rC_unsureWorths), (arI rC_kind kC_kind 18 fC_kind), (arI rS_worths kS_worths 18 fS_worths)]) hD hS hA [9, 10, 1, 2, 8] rfl
    refine va_callv (va_runV (As := [.ref oC, .ref rS_worths]) (rest := []) ⟨hx, hb, hml, hown, hts⟩ (tX4_weighNightNone l dC dI _ oL rL_values fL_values kL_values rL_supposed oC iC_nodes iC_words iC_chances iC_unsures iC_slips iC_throneNode iC_saidWorth iC_unit rC_kind fC_kind kC_kind rC_parts rC_partNodes rC_weights rC_weightSums rC_toldWorths rC_steps rC_below rC_above rC_unsureWords rC_unsureWorths rS_worths fS_worths kS_worths b_iC_nodes b_iC_unsures b_iC_throneNode) (cwV 2 hts (wd_V wd_1088 wd_1089 wd_1090 wd_37 (wd_c wd_1091)) rfl rfl rfl dv_yX4_weighNightNone_2 ⟨Nat.le_of_ble_eq_true rfl, Nat.le_of_ble_eq_true rfl⟩) ⟨Pw.fb, recvX4 hK hP (q0 := 9) rfl, fun U hU hW => Pw.to (hP.sub [9, 10, 1, 2, 8] rfl) (hD.sub [9, 10, 1, 2, 8] (by decide) rfl) (hK.sub [6, 0, 5] rfl) hE hS hFc hU hW⟩ rfl rfl hl.1 rfl (lv_room (Nat.le_of_ble_eq_true rfl)) dX6_night_30 ⟨Nat.le_of_ble_eq_true rfl, Nat.le_of_ble_eq_true rfl⟩) hS (fun q _ h => hFc q h) hFc (fun u t H locs ht hvm hw hB hz1 hk1 hS => ?_)
    refine ex_1_1 hB (fun f_5342 e_f_5342_0 hB => ?_)
    obtain ⟨hP, hD, hK⟩ := Bw.go (ws' := [(oc6 oK oR oC oS oT rK_images iK_imageCount oA oH oL x_5338 iK_latestFault iK_latestPlace), (arI rC_parts kC_parts 18 fC_parts), (arI rC_partNodes kC_partNodes 72 fC_partNodes), (arI rC_weights kC_weights 72 fC_weights), (arI rC_weightSums kC_weightSums 18 fC_weightSums), (oc5 oS rS_worths rS_order rS_left), (oc4 oL rL_values rL_supposed), (arI rL_values kL_values 18 f_5342), (oc1 oC iC_nodes iC_words iC_chances iC_unsures iC_slips iC_throneNode iC_saidWorth iC_unit rC_kind rC_parts rC_partNodes rC_weights rC_weightSums rC_toldWorths rC_steps rC_below rC_above rC_unsureWords rC_unsureWorths), (arI rC_kind kC_kind 18 fC_kind), (arI rS_worths kS_worths 18 fS_worths)]) (tys' := [(kC_parts, .int), (kC_partNodes, .int), (kC_weights, .int), (kC_weightSums, .int), (kL_values, .int), (kC_kind, .int), (kS_worths, .int)]) hB rfl ht hvm hP hD hK [9, 10, 1, 2, 8] [0, 3, 4, 5, 6, 7] rfl (by decide) (by decide) [1, 2, 3, 4] hk1 hFc rfl rfl rfl
    clear hz1 hk1 hvm ht hB
    have hG := hG.trans (lt_eq e_f_5342_0.symm)
    refine lv_iconst (v := 0) hx hb dX6_night_33 (by decide) ?_
    refine lv_istore_n (lv' := [(3, .int 0), (0, .ref oK), (1, .int p0), (2, .int p1)]) hx hb dX6_night_34 rfl hl (by decide) rfl (fun ls hl => ?_)
    have hl := lv_sub hl (l' := [(3, .int 0), (0, .ref oK), (1, .int p0), (2, .int p1)]) [0, 1, 2, 3] rfl
    have key_n_5345 : ∀ (n_5345 : Nat) (z_5343 : Int32) (f_5344 : Nat → Int32) (H : Heap) (locs : List Loc) (ls : Array Slot), (0 ≤ z_5343.toInt ∧ z_5343.toInt ≤ 2147483647) → (2147483647 - z_5343.toInt).toNat < n_5345 → (PX6_night iC_nodes iC_throneNode iC_unit fC_kind fC_parts fC_partNodes fC_weights fC_weightSums fS_worths fL_values p0 p1 = HX6_night_0 iC_nodes iC_throneNode iC_unit fC_kind fC_parts fC_partNodes fC_weights fC_weightSums p0 p1 x_5338 n_5345 z_5343 f_5344) → va_P (dC, dI) vwCl [(oc6 oK oR oC oS oT rK_images iK_imageCount oA oH oL x_5338 iK_latestFault iK_latestPlace), (arI rC_parts kC_parts 18 fC_parts), (arI rC_partNodes kC_partNodes 72 fC_partNodes), (arI rC_weights kC_weights 72 fC_weights), (arI rC_weightSums kC_weightSums 18 fC_weightSums), (oc5 oS rS_worths rS_order rS_left), (oc4 oL rL_values rL_supposed), (arI rL_values kL_values 18 f_5344), (oc1 oC iC_nodes iC_words iC_chances iC_unsures iC_slips iC_throneNode iC_saidWorth iC_unit rC_kind rC_parts rC_partNodes rC_weights rC_weightSums rC_toldWorths rC_steps rC_below rC_above rC_unsureWords rC_unsureWorths), (arI rC_kind kC_kind 18 fC_kind), (arI rS_worths kS_worths 18 fS_worths)] H → va_D A [(oc6 oK oR oC oS oT rK_images iK_imageCount oA oH oL x_5338 iK_latestFault iK_latestPlace), (arI rC_parts kC_parts 18 fC_parts), (arI rC_partNodes kC_partNodes 72 fC_partNodes), (arI rC_weights kC_weights 72 fC_weights), (arI rC_weightSums kC_weightSums 18 fC_weightSums), (oc5 oS rS_worths rS_order rS_left), (oc4 oL rL_values rL_supposed), (arI rL_values kL_values 18 f_5344), (oc1 oC iC_nodes iC_words iC_chances iC_unsures iC_slips iC_throneNode iC_saidWorth iC_unit rC_kind rC_parts rC_partNodes rC_weights rC_weightSums rC_toldWorths rC_steps rC_below rC_above rC_unsureWords rC_unsureWorths), (arI rC_kind kC_kind 18 fC_kind), (arI rS_worths kS_worths 18 fS_worths)] → va_S A s.heap H locs → lv_has ls 4 [(3, .int z_5343), (0, .ref oK), (1, .int p0), (2, .int p1)] → W p l e (headSpec (Cond.code yX6_night cX6_night 4 (some .long) :: wG) ({ frames := 3, cells := 0, slots := 0, locals := 70 })).room s m ([.ref oK, .int p0, .int p1] : List Value).toArray below meth c H locs 0 0 (MQ below (va_Ql (fun (r : Int64) (u : Nat) => (True ∧ True) ∧ r = Int64.ofNat u) (fun (u : Nat) (t : State) => ∃ (niK_refusal : Int32) (nfL_values : Nat → Int32), (PX6_night iC_nodes iC_throneNode iC_unit fC_kind fC_parts fC_partNodes fC_weights fC_weightSums fS_worths fL_values p0 p1 = (Int64.ofNat u, niK_refusal, nfL_values)) ∧ Bw dC dI A [(oc6 oK oR oC oS oT rK_images iK_imageCount oA oH oL niK_refusal iK_latestFault iK_latestPlace), (oc1 oC iC_nodes iC_words iC_chances iC_unsures iC_slips iC_throneNode iC_saidWorth iC_unit rC_kind rC_parts rC_partNodes rC_weights rC_weightSums rC_toldWorths rC_steps rC_below rC_above rC_unsureWords rC_unsureWorths), (arI rC_kind kC_kind 18 fC_kind), (arI rC_parts kC_parts 18 fC_parts), (arI rC_partNodes kC_partNodes 72 fC_partNodes), (arI rC_weights kC_weights 72 fC_weights), (arI rC_weightSums kC_weightSums 18 fC_weightSums), (oc5 oS rS_worths rS_order rS_left), (arI rS_worths kS_worths 18 fS_worths), (oc4 oL rL_values rL_supposed), (arI rL_values kL_values 18 nfL_values)] [(kC_kind, .int), (kC_parts, .int), (kC_partNodes, .int), (kC_weights, .int), (kC_weightSums, .int), (kS_worths, .int), (kL_values, .int)] t) A) ([.ref oK, .int p0, .int p1] : List Value).toArray s 0 0 A) (F0 m 35 ls []) := by
      intro n_5345
      induction n_5345 with
      | zero => intro z_5343 f_5344 H locs ls hi0_n_5345 hm; exact absurd hm (Nat.not_lt_zero _)
      | succ n_5345 ih_n_5345 =>
        intro z_5343 f_5344 H locs ls hi0_n_5345 hm_n_5345 hG hP hD hS hl
        have hG := hG.trans (HX6_night_0_eq _ _ _ _ _ _ _ _ _ _ _ _ _ _)
        have rg_z_5343 := fb_rng z_5343
        refine lv_iload_n hx hb dX6_night_35 rfl (lv_at hl 0 rfl) ?_
        refine lv_iload_n hx hb dX6_night_36 rfl (lv_at hl 2 rfl) ?_
        refine lv_icmp_ge (tgt := 57) hx hb dX6_night_37 (by decide) (fun c_5346 => ?_) (fun c_5346 => ?_)
        · skip
          have hG := hG.trans (if_pos c_5346)
          have gc_5346 := ti_le c_5346 rfl rfl
          refine lv_aload_n hx hb dX6_night_57 rfl (lv_at hl 1 rfl) ?_
          refine va_get (D := (dC, dI)) (ci := 6) (v := .ref oL) (C := RX6) (T := TX6) (N := 12) hx hb hts inX6 hown hK hP 0 rfl rfl 8 (by decide) (hts _ wd_38) (fun _ h9 => h9) rfl dX6_night_58 ?_
          refine va_get (D := (dC, dI)) (ci := 4) (v := .ref rL_values) (C := RX4) (T := TX4) (N := 2) hx hb hts inX4 hown hK hP 6 rfl rfl 0 (by decide) (hts _ wd_610) (fun _ h9 => h9) rfl dX6_night_61 ?_
          refine lv_aload_n hx hb dX6_night_64 rfl (lv_at hl 1 rfl) ?_
          refine va_get (D := (dC, dI)) (ci := 6) (v := .ref oC) (C := RX6) (T := TX6) (N := 12) hx hb hts inX6 hown hK hP 0 rfl rfl 1 (by decide) (hts _ wd_20) (fun _ h9 => h9) rfl dX6_night_65 ?_
          refine va_get (D := (dC, dI)) (ci := 1) (v := .int iC_throneNode) (C := RX1) (T := TX1) (N := 19) hx hb hts inX1 hown hK hP 8 rfl rfl 5 (by decide) (hts _ wd_595) (fun _ h9 => h9) rfl dX6_night_68 ?_
          have rg_iC_throneNode := fb_rng iC_throneNode
          have thr9 : 0 ≤ iC_throneNode.toInt := by omega
          refine va_iald hx hb hK hP 7 4 rfl rfl (ti_in rfl thr9 (om_b3735a34 b_iC_throneNode.2)) dX6_night_71 ?_
          refine lv_topi (fun x_5347 ex_5347 => ?_)
          have hG := hG.trans (lt_eq ex_5347)
          have rg_x_5347 := fb_rng x_5347
          have kx_5347 : (f_5344 iC_throneNode.toNatClampNeg).toInt = x_5347.toInt := by rw [ex_5347]
          obtain ⟨y_5348, ey_5348⟩ : ∃ z : Int64, z = (x_5347 : Int32).toInt64 := ⟨_, rfl⟩
          have hG := hG.trans (lt_eq ey_5348)
          refine lv_i2l (v := y_5348) hx hb dX6_night_72 ey_5348.symm ?_
          refine lv_aload_n hx hb dX6_night_73 rfl (lv_at hl 1 rfl) ?_
          refine va_get (D := (dC, dI)) (ci := 6) (v := .ref oC) (C := RX6) (T := TX6) (N := 12) hx hb hts inX6 hown hK hP 0 rfl rfl 1 (by decide) (hts _ wd_20) (fun _ h9 => h9) rfl dX6_night_74 ?_
          refine va_get (D := (dC, dI)) (ci := 1) (v := .int iC_unit) (C := RX1) (T := TX1) (N := 19) hx hb hts inX1 hown hK hP 8 rfl rfl 7 (by decide) (hts _ wd_611) (fun _ h9 => h9) rfl dX6_night_77 ?_
          have rg_iC_unit := fb_rng iC_unit
          obtain ⟨y_5349, ey_5349⟩ : ∃ z : Int64, z = (iC_unit : Int32).toInt64 := ⟨_, rfl⟩
          have hG := hG.trans (lt_eq ey_5349)
          refine lv_i2l (v := y_5349) hx hb dX6_night_80 ey_5349.symm ?_
          refine lv_iload_n hx hb dX6_night_81 rfl (lv_at hl 3 rfl) ?_
          have hFc : ∀ q, va_A [] _ q → A q := fun q h => hA q (Nat.le_trans hS.1 (va_nilA h))
          refine va_calll (va_runS (As := [.long y_5348, .long y_5349, .int p1]) (rest := []) ⟨hx, hb, hml, hown, hts⟩ (tX6_inLowestTerms l dC dI _ y_5348 y_5349 p1 ) (va_cwS 3 hts (wd_S wd_635 wd_636 wd_2 (wd_c wd_637)) rfl rfl rfl ds_yX6_inLowestTerms_3 ⟨Nat.le_of_ble_eq_true rfl, Nat.le_of_ble_eq_true rfl⟩) ⟨Pw.fb, fun U hU hW => Pn.to hK hE hS hA hU hW⟩ rfl rfl hl.1 rfl (lv_room (Nat.le_of_ble_eq_true rfl)) dX6_night_82 ⟨Nat.le_of_ble_eq_true rfl, Nat.le_of_ble_eq_true rfl⟩) hS (fun q _ h => hFc q h) hFc (fun r u t H locs ht hvm hw hB hz1 hk1 hS => ?_)
          obtain ⟨hP, hD, hK⟩ := Bw.same ht hvm hP hD hK hk1 hFc
          clear hz1 hk1 hvm ht hB
          have hq9 := hw.2
          have hw := hw.1
          obtain ⟨y_5350, rfl⟩ : ∃ z, z = r := ⟨_, rfl⟩
          have hq_y_5350 := hq9
          have hG := hG.trans (lt_eq hq_y_5350.symm)
          exact wq_l hx hb hr (cL y_5350) ⟨⟨trivial, trivial⟩, (cL_of y_5350)⟩ (fun t ht hW => ⟨x_5338, f_5344, (cL_tup hG), Bw.to (hP.sub [0, 8, 9, 1, 2, 3, 4, 5, 10, 6, 7] rfl) (hD.sub [0, 8, 9, 1, 2, 3, 4, 5, 10, 6, 7] (by decide) rfl) (hK.sub [5, 0, 1, 2, 3, 6, 4] rfl) ht hW⟩) hS dX6_night_85 hlocks
        · skip
          have hG := hG.trans (if_neg c_5346)
          have gc_5346 := ti_nle c_5346 rfl rfl
          refine lv_aload_n hx hb dX6_night_40 rfl (lv_at hl 1 rfl) ?_
          refine va_get (D := (dC, dI)) (ci := 6) (v := .ref oL) (C := RX6) (T := TX6) (N := 12) hx hb hts inX6 hown hK hP 0 rfl rfl 8 (by decide) (hts _ wd_38) (fun _ h9 => h9) rfl dX6_night_41 ?_
          refine lv_aload_n hx hb dX6_night_44 rfl (lv_at hl 1 rfl) ?_
          refine va_get (D := (dC, dI)) (ci := 6) (v := .ref oC) (C := RX6) (T := TX6) (N := 12) hx hb hts inX6 hown hK hP 0 rfl rfl 1 (by decide) (hts _ wd_20) (fun _ h9 => h9) rfl dX6_night_45 ?_
          have hFc := va_free (wc := [(oc4 oL rL_values rL_supposed), (arI rL_values kL_values 18 f_5344), (oc1 oC iC_nodes iC_words iC_chances iC_unsures iC_slips iC_throneNode iC_saidWorth iC_unit rC_kind rC_parts rC_partNodes rC_weights rC_weightSums rC_toldWorths rC_steps rC_below rC_above rC_unsureWords rC_unsureWorths), (arI rC_kind kC_kind 18 fC_kind), (arI rC_parts kC_parts 18 fC_parts), (arI rC_partNodes kC_partNodes 72 fC_partNodes), (arI rC_weights kC_weights 72 fC_weights), (arI rC_weightSums kC_weightSums 18 fC_weightSums)]) hD hS hA [6, 7, 8, 9, 1, 2, 3, 4] rfl
          refine va_callv (va_runV (As := [.ref oC]) (rest := []) ⟨hx, hb, hml, hown, hts⟩ (tX4_weighNextNight l dC dI _ oL rL_values f_5344 kL_values rL_supposed oC iC_nodes iC_words iC_chances iC_unsures iC_slips iC_throneNode iC_saidWorth iC_unit rC_kind fC_kind kC_kind rC_parts fC_parts kC_parts rC_partNodes fC_partNodes kC_partNodes rC_weights fC_weights kC_weights rC_weightSums fC_weightSums kC_weightSums rC_toldWorths rC_steps rC_below rC_above rC_unsureWords rC_unsureWorths b_iC_nodes b_iC_unsures b_iC_throneNode a_fC_parts a_fC_partNodes) (cwV 1 hts (wd_V wd_1092 wd_1093 wd_1094 wd_37 (wd_c wd_1095)) rfl rfl rfl dv_yX4_weighNextNight_1 ⟨Nat.le_of_ble_eq_true rfl, Nat.le_of_ble_eq_true rfl⟩) ⟨Pw.fb, recvX4 hK hP (q0 := 6) rfl, fun U hU hW => Pw.to (hP.sub [6, 7, 8, 9, 1, 2, 3, 4] rfl) (hD.sub [6, 7, 8, 9, 1, 2, 3, 4] (by decide) rfl) (hK.sub [4, 5, 0, 1, 2, 3] rfl) hE hS hFc hU hW⟩ rfl rfl hl.1 rfl (lv_room (Nat.le_of_ble_eq_true rfl)) dX6_night_48 ⟨Nat.le_of_ble_eq_true rfl, Nat.le_of_ble_eq_true rfl⟩) hS (fun q _ h => hFc q h) hFc (fun u t H locs ht hvm hw hB hz1 hk1 hS => ?_)
          refine ex_1_1 hB (fun f_5351 e_f_5351_0 hB => ?_)
          obtain ⟨hP, hD, hK⟩ := Bw.go (ws' := [(oc6 oK oR oC oS oT rK_images iK_imageCount oA oH oL x_5338 iK_latestFault iK_latestPlace), (oc5 oS rS_worths rS_order rS_left), (arI rS_worths kS_worths 18 fS_worths), (oc4 oL rL_values rL_supposed), (arI rL_values kL_values 18 f_5351), (oc1 oC iC_nodes iC_words iC_chances iC_unsures iC_slips iC_throneNode iC_saidWorth iC_unit rC_kind rC_parts rC_partNodes rC_weights rC_weightSums rC_toldWorths rC_steps rC_below rC_above rC_unsureWords rC_unsureWorths), (arI rC_kind kC_kind 18 fC_kind), (arI rC_parts kC_parts 18 fC_parts), (arI rC_partNodes kC_partNodes 72 fC_partNodes), (arI rC_weights kC_weights 72 fC_weights), (arI rC_weightSums kC_weightSums 18 fC_weightSums)]) (tys' := [(kS_worths, .int), (kL_values, .int), (kC_kind, .int), (kC_parts, .int), (kC_partNodes, .int), (kC_weights, .int), (kC_weightSums, .int)]) hB rfl ht hvm hP hD hK [6, 7, 8, 9, 1, 2, 3, 4] [0, 5, 10] rfl (by decide) (by decide) [6] hk1 hFc rfl rfl rfl
          clear hz1 hk1 hvm ht hB
          have hG := hG.trans (lt_eq e_f_5351_0.symm)
          obtain ⟨x_5352, ex_5352⟩ : ∃ z : Int32, z = z_5343 + Int32.ofInt 1 := ⟨_, rfl⟩
          have hG := hG.trans (lt_eq ex_5352)
          have vx_5352 : x_5352.toInt = z_5343.toInt + 1 := ti_add (y := 1) ex_5352 rfl kc_1 (om_4e4fce7e hi0_n_5345.1) (om_b82471d9 hc_5339.2.2 gc_5346 kc_9)
          refine lv_iinc (v := x_5352) (lv' := [(3, .int x_5352), (0, .ref oK), (1, .int p0), (2, .int p1)]) hx hb dX6_night_51 hl (k := 0) rfl ex_5352.symm (by decide) rfl (fun ls hl => ?_)
          refine lv_goto (tgt := 35) hx hb dX6_night_54 (by decide) ?_
          exact ih_n_5345 x_5352 f_5351 _ _ _  ⟨(om_83b90de5 hi0_n_5345.1 vx_5352), (om_bcad9cdb hc_5339.2.2 gc_5346 vx_5352 kc_9)⟩ (ms_lt hm_n_5345 (om_b9393183 vx_5352) (om_5766c6b3 hc_5339.2.2 gc_5346 kc_9)) hG (hP.sub [0, 7, 8, 9, 10, 1, 3, 4, 5, 6, 2] rfl) (hD.sub [0, 7, 8, 9, 10, 1, 3, 4, 5, 6, 2] (by decide) rfl) hS (lv_sub hl [0, 1, 2, 3] rfl)
    exact key_n_5345 (((2147483647 - (0 : Int32).toInt).toNat) + 1) 0 f_5342 _ _ _  ⟨(om_b1de7dbe kc_0), (om_daf17c64 kc_0)⟩ (Nat.lt_add_one _) hG hP hD hS hl
  · skip
    have hG := hG.trans (un2_eq e_x_5338_0)
    have hG := hG.trans (if_neg (by decide))
    refine lv_if_eq (tgt := 15) hx hb dX6_night_8 (by decide) (fun c => absurd c (by decide)) (fun _ => ?_)
    refine lv_ldc2 hx hb hown (hts _ wd_608) dX6_night_11 ?_
    exact wq_l hx hb hr (cL (-1)) ⟨⟨trivial, trivial⟩, (cL_of (-1))⟩ (fun t ht hW => ⟨x_5338, fL_values, (cL_tup hG), Bw.to hP hD hK ht hW⟩) hS dX6_night_14 hlocks
set_option maxHeartbeats 4000000 in
set_option maxRecDepth 100000 in
theorem tX6_settles (l : Launch) (dC : Nat → ClassId) (dI : Nat → Nat → Nat) (sz : Nat) (oK : Nat) (oR : Nat) (oC : Nat) (oS : Nat) (oT : Nat) (rK_images : Nat) (iK_imageCount : Int32) (oA : Nat) (oH : Nat) (oL : Nat) (iK_refusal : Int32) (iK_latestFault : Int32) (iK_latestPlace : Int32) (iC_nodes : Int32) (iC_words : Int32) (iC_chances : Int32) (iC_unsures : Int32) (iC_slips : Int32) (iC_throneNode : Int32) (iC_saidWorth : Int32) (iC_unit : Int32) (rC_kind : Nat) (fC_kind : Nat → Int32) (kC_kind : ClassId) (rC_parts : Nat) (fC_parts : Nat → Int32) (kC_parts : ClassId) (rC_partNodes : Nat) (fC_partNodes : Nat → Int32) (kC_partNodes : ClassId) (rC_weights : Nat) (fC_weights : Nat → Int32) (kC_weights : ClassId) (rC_weightSums : Nat) (fC_weightSums : Nat → Int32) (kC_weightSums : ClassId) (rC_toldWorths : Nat) (rC_steps : Nat) (rC_below : Nat) (rC_above : Nat) (rC_unsureWords : Nat) (rC_unsureWorths : Nat) (rS_worths : Nat) (fS_worths : Nat → Int32) (kS_worths : ClassId) (rS_order : Nat) (rS_left : Nat) (rL_values : Nat) (fL_values : Nat → Int32) (kL_values : ClassId) (rL_supposed : Nat) (b_iK_imageCount : 0 ≤ iK_imageCount.toInt ∧ iK_imageCount.toInt ≤ 3) (b_iC_nodes : 0 ≤ iC_nodes.toInt ∧ iC_nodes.toInt ≤ 18) (b_iC_unsures : 0 ≤ iC_unsures.toInt ∧ iC_unsures.toInt ≤ 4) (b_iC_throneNode : (-1) ≤ iC_throneNode.toInt ∧ iC_throneNode.toInt ≤ 17) (a_fC_parts : ∀ j : Nat, j < 18 → 0 ≤ (fC_parts j).toInt ∧ (fC_parts j).toInt ≤ 4) (a_fC_partNodes : ∀ j : Nat, j < 72 → 0 ≤ (fC_partNodes j).toInt ∧ (fC_partNodes j).toInt ≤ 17) (hthr : iC_nodes.toInt ≤ 0 ∨ 0 ≤ iC_throneNode.toInt) : Met l yX6_settles (Cond.code yX6_settles cX6_settles 4 (some .int) :: wG) ({ frames := 3, cells := 0, slots := 0, locals := 71 }) (va_Pc [.ref oK] (Pw dC dI sz [(oc6 oK oR oC oS oT rK_images iK_imageCount oA oH oL iK_refusal iK_latestFault iK_latestPlace), (oc1 oC iC_nodes iC_words iC_chances iC_unsures iC_slips iC_throneNode iC_saidWorth iC_unit rC_kind rC_parts rC_partNodes rC_weights rC_weightSums rC_toldWorths rC_steps rC_below rC_above rC_unsureWords rC_unsureWorths), (arI rC_kind kC_kind 18 fC_kind), (arI rC_parts kC_parts 18 fC_parts), (arI rC_partNodes kC_partNodes 72 fC_partNodes), (arI rC_weights kC_weights 72 fC_weights), (arI rC_weightSums kC_weightSums 18 fC_weightSums), (oc5 oS rS_worths rS_order rS_left), (arI rS_worths kS_worths 18 fS_worths), (oc4 oL rL_values rL_supposed), (arI rL_values kL_values 18 fL_values)] [(kC_kind, .int), (kC_parts, .int), (kC_partNodes, .int), (kC_weights, .int), (kC_weightSums, .int), (kS_worths, .int), (kL_values, .int)])) (va_Qi (fun (r : Int32) (u : Nat) => (True ∧ True) ∧ r = Int32.ofNat u) (fun (u : Nat) (t : State) => ∃ (niK_refusal : Int32) (nfL_values : Nat → Int32), (PX6_settles iC_nodes iC_throneNode iC_unit fC_kind fC_parts fC_partNodes fC_weights fC_weightSums fS_worths fL_values = (Int32.ofNat u, niK_refusal, nfL_values)) ∧ Bw dC dI (va_A [(oc6 oK oR oC oS oT rK_images iK_imageCount oA oH oL iK_refusal iK_latestFault iK_latestPlace), (oc1 oC iC_nodes iC_words iC_chances iC_unsures iC_slips iC_throneNode iC_saidWorth iC_unit rC_kind rC_parts rC_partNodes rC_weights rC_weightSums rC_toldWorths rC_steps rC_below rC_above rC_unsureWords rC_unsureWorths), (arI rC_kind kC_kind 18 fC_kind), (arI rC_parts kC_parts 18 fC_parts), (arI rC_partNodes kC_partNodes 72 fC_partNodes), (arI rC_weights kC_weights 72 fC_weights), (arI rC_weightSums kC_weightSums 18 fC_weightSums), (oc5 oS rS_worths rS_order rS_left), (arI rS_worths kS_worths 18 fS_worths), (oc4 oL rL_values rL_supposed), (arI rL_values kL_values 18 fL_values)] sz) [(oc6 oK oR oC oS oT rK_images iK_imageCount oA oH oL niK_refusal iK_latestFault iK_latestPlace), (oc1 oC iC_nodes iC_words iC_chances iC_unsures iC_slips iC_throneNode iC_saidWorth iC_unit rC_kind rC_parts rC_partNodes rC_weights rC_weightSums rC_toldWorths rC_steps rC_below rC_above rC_unsureWords rC_unsureWorths), (arI rC_kind kC_kind 18 fC_kind), (arI rC_parts kC_parts 18 fC_parts), (arI rC_partNodes kC_partNodes 72 fC_partNodes), (arI rC_weights kC_weights 72 fC_weights), (arI rC_weightSums kC_weightSums 18 fC_weightSums), (oc5 oS rS_worths rS_order rS_left), (arI rS_worths kS_worths 18 fS_worths), (oc4 oL rL_values rL_supposed), (arI rL_values kL_values 18 nfL_values)] [(kC_kind, .int), (kC_parts, .int), (kC_partNodes, .int), (kC_weights, .int), (kC_weightSums, .int), (kS_worths, .int), (kL_values, .int)] t) (va_A [(oc6 oK oR oC oS oT rK_images iK_imageCount oA oH oL iK_refusal iK_latestFault iK_latestPlace), (oc1 oC iC_nodes iC_words iC_chances iC_unsures iC_slips iC_throneNode iC_saidWorth iC_unit rC_kind rC_parts rC_partNodes rC_weights rC_weightSums rC_toldWorths rC_steps rC_below rC_above rC_unsureWords rC_unsureWorths), (arI rC_kind kC_kind 18 fC_kind), (arI rC_parts kC_parts 18 fC_parts), (arI rC_partNodes kC_partNodes 72 fC_partNodes), (arI rC_weights kC_weights 72 fC_weights), (arI rC_weightSums kC_weightSums 18 fC_weightSums), (oc5 oS rS_worths rS_order rS_left), (arI rS_worths kS_worths 18 fS_worths), (oc4 oL rL_values rL_supposed), (arI rL_values kL_values 18 fL_values)] sz)) 0 0 (va_A [(oc6 oK oR oC oS oT rK_images iK_imageCount oA oH oL iK_refusal iK_latestFault iK_latestPlace), (oc1 oC iC_nodes iC_words iC_chances iC_unsures iC_slips iC_throneNode iC_saidWorth iC_unit rC_kind rC_parts rC_partNodes rC_weights rC_weightSums rC_toldWorths rC_steps rC_below rC_above rC_unsureWords rC_unsureWorths), (arI rC_kind kC_kind 18 fC_kind), (arI rC_parts kC_parts 18 fC_parts), (arI rC_partNodes kC_partNodes 72 fC_partNodes), (arI rC_weights kC_weights 72 fC_weights), (arI rC_weightSums kC_weightSums 18 fC_weightSums), (oc5 oS rS_worths rS_order rS_left), (arI rS_worths kS_worths 18 fS_worths), (oc4 oL rL_values rL_supposed), (arI rL_values kL_values 18 fL_values)] sz) := by
  refine Met.ofW (cc := cX6_settles) (maxL := 4) (ret := (some .int)) pnX6 rfl ?_
  intro p e s m args below meth c s₁ B hml hv
  obtain ⟨rfl, hsz, hP, hK, hD0, hE⟩ := hv
  have hx := B.exec
  have hb := B.bytes
  have hr := B.returns
  have hts : ∀ w ∈ wG, w.before ([.ref oK] : List Value).toArray s = true := fun w h => atoms_spec (ws := Cond.code yX6_settles cX6_settles 4 (some .int) :: wG) B.pre w (List.mem_cons_of_mem _ h)
  have hown : s.vm.findClass RX6 = some m.cls := own_of B.named rfl
  have hlocks := B.notSynchronized
  subst hsz
  have hD := hD0.self (sz := s.heap.size)
  generalize hAe : va_A [(oc6 oK oR oC oS oT rK_images iK_imageCount oA oH oL iK_refusal iK_latestFault iK_latestPlace), (oc1 oC iC_nodes iC_words iC_chances iC_unsures iC_slips iC_throneNode iC_saidWorth iC_unit rC_kind rC_parts rC_partNodes rC_weights rC_weightSums rC_toldWorths rC_steps rC_below rC_above rC_unsureWords rC_unsureWorths), (arI rC_kind kC_kind 18 fC_kind), (arI rC_parts kC_parts 18 fC_parts), (arI rC_partNodes kC_partNodes 72 fC_partNodes), (arI rC_weights kC_weights 72 fC_weights), (arI rC_weightSums kC_weightSums 18 fC_weightSums), (oc5 oS rS_worths rS_order rS_left), (arI rS_worths kS_worths 18 fS_worths), (oc4 oL rL_values rL_supposed), (arI rL_values kL_values 18 fL_values)] s.heap.size = A at hD hE ⊢
  have hA : ∀ q : Nat, s.heap.size ≤ q → A q := fun q h => by rw [← hAe]; exact Or.inr h
  have hS : va_S A s.heap s.heap [] := va_S.rf
  have hl := lv_entry ([.ref oK]) (n := 4) (Nat.le_of_ble_eq_true rfl)
  rw [lg_entry_eq]
  generalize (lg_sl ([.ref oK]) ++ List.replicate (4 - (lg_sl ([.ref oK])).length) Slot.unset).toArray = ls at hl ⊢
  have hl : lv_has ls 4 [(0, .ref oK)] := hl
  have hG := PX6_settles_eq iC_nodes iC_throneNode iC_unit fC_kind fC_parts fC_partNodes fC_weights fC_weightSums fS_worths fL_values
  refine lv_aload_n hx hb dX6_settles_0 rfl (lv_at hl 0 rfl) ?_
  have hMs := ml_of hD [true, true, false, false, false, false, false, false, false, false, false] (wc := [(oc6 oK oR oC oS oT rK_images iK_imageCount oA oH oL iK_refusal iK_latestFault iK_latestPlace), (oc1 oC iC_nodes iC_words iC_chances iC_unsures iC_slips iC_throneNode iC_saidWorth iC_unit rC_kind rC_parts rC_partNodes rC_weights rC_weightSums rC_toldWorths rC_steps rC_below rC_above rC_unsureWords rC_unsureWorths)]) rfl
  have hFc := va_freeM hD hS hA _ hMs
  refine va_calli (va_runV (As := []) (rest := []) ⟨hx, hb, hml, hown, hts⟩ (tX6_lacksCourt l dC dI _ oK oR oC oS oT rK_images iK_imageCount oA oH oL iK_refusal iK_latestFault iK_latestPlace iC_nodes iC_words iC_chances iC_unsures iC_slips iC_throneNode iC_saidWorth iC_unit rC_kind rC_parts rC_partNodes rC_weights rC_weightSums rC_toldWorths rC_steps rC_below rC_above rC_unsureWords rC_unsureWorths b_iK_imageCount b_iC_nodes b_iC_unsures b_iC_throneNode) (cwV 0 hts (wd_V wd_596 wd_597 wd_598 wd_2 (wd_c wd_599)) rfl rfl rfl dv_yX6_lacksCourt_0 ⟨Nat.le_of_ble_eq_true rfl, Nat.le_of_ble_eq_true rfl⟩) ⟨Pw.fb, recvX6 hK hP (q0 := 0) rfl, fun U hU hW => Pw.to (hP.ms _ hMs) (hD.ms _ hMs) (hK.ms [false, false, false, false, false, false, false] rfl) hE hS hFc hU hW⟩ rfl rfl hl.1 rfl (lv_room (Nat.le_of_ble_eq_true rfl)) dX6_settles_1 ⟨Nat.le_of_ble_eq_true rfl, Nat.le_of_ble_eq_true rfl⟩) hS (fun q _ h => hFc q h) hFc (fun r u t H locs ht hvm hw hB hz1 hk1 hS => ?_)
  have hru9 := hw.2
  have hw := hw.1
  refine ex_1_2 hB (fun x_5403 b_x_5403 e_x_5403_0 hB => ?_)
  obtain ⟨hP, hD⟩ := Bw.goN (ws' := [(oc6 oK oR oC oS oT rK_images iK_imageCount oA oH oL x_5403 iK_latestFault iK_latestPlace), (oc1 oC iC_nodes iC_words iC_chances iC_unsures iC_slips iC_throneNode iC_saidWorth iC_unit rC_kind rC_parts rC_partNodes rC_weights rC_weightSums rC_toldWorths rC_steps rC_below rC_above rC_unsureWords rC_unsureWorths), (arI rC_kind kC_kind 18 fC_kind), (arI rC_parts kC_parts 18 fC_parts), (arI rC_partNodes kC_partNodes 72 fC_partNodes), (arI rC_weights kC_weights 72 fC_weights), (arI rC_weightSums kC_weightSums 18 fC_weightSums), (oc5 oS rS_worths rS_order rS_left), (arI rS_worths kS_worths 18 fS_worths), (oc4 oL rL_values rL_supposed), (arI rL_values kL_values 18 fL_values)]) hB rfl ht hP hD _ hMs hk1 hFc rfl
  clear hz1 hk1 hvm ht hB hMs
  rw [← hru9] at e_x_5403_0
  rcases hw.2 with ⟨rfl, hc_5404⟩ | ⟨rfl, hc_5404⟩
  · skip
    have hG := hG.trans (un2_eq e_x_5403_0)
    have hG := hG.trans (if_pos rfl)
    refine lv_if_eq (tgt := 9) hx hb dX6_settles_4 (by decide) (fun _ => ?_) (fun c => absurd c (by decide))
    refine lv_aload_n hx hb dX6_settles_9 rfl (lv_at hl 0 rfl) ?_
    refine va_get (D := (dC, dI)) (ci := 6) (v := .ref oL) (C := RX6) (T := TX6) (N := 12) hx hb hts inX6 hown hK hP 0 rfl rfl 8 (by decide) (hts _ wd_38) (fun _ h9 => h9) rfl dX6_settles_10 ?_
    refine lv_aload_n hx hb dX6_settles_13 rfl (lv_at hl 0 rfl) ?_
    refine va_get (D := (dC, dI)) (ci := 6) (v := .ref oC) (C := RX6) (T := TX6) (N := 12) hx hb hts inX6 hown hK hP 0 rfl rfl 1 (by decide) (hts _ wd_20) (fun _ h9 => h9) rfl dX6_settles_14 ?_
    refine lv_aload_n hx hb dX6_settles_17 rfl (lv_at hl 0 rfl) ?_
    refine va_get (D := (dC, dI)) (ci := 6) (v := .ref oS) (C := RX6) (T := TX6) (N := 12) hx hb hts inX6 hown hK hP 0 rfl rfl 2 (by decide) (hts _ wd_24) (fun _ h9 => h9) rfl dX6_settles_18 ?_
    refine va_get (D := (dC, dI)) (ci := 5) (v := .ref rS_worths) (C := RX5) (T := TX5) (N := 3) hx hb hts inX5 hown hK hP 7 rfl rfl 0 (by decide) (hts _ wd_609) (fun _ h9 => h9) rfl dX6_settles_21 ?_
    have hFc := va_free (wc := [(oc4 oL rL_values rL_supposed), (arI rL_values kL_values 18 fL_values), (oc1 oC iC_nodes iC_words iC_chances iC_unsures iC_slips iC_throneNode iC_saidWorth iC_unit rC_kind rC_parts rC_partNodes rC_weights rC_weightSums rC_toldWorths rC_steps rC_below rC_above rC_unsureWords rC_unsureWorths), (arI rC_kind kC_kind 18 fC_kind), (arI rC_parts kC_parts 18 fC_parts), (arI rC_partNodes kC_partNodes 72 fC_partNodes), (arI rC_weights kC_weights 72 fC_weights), (arI rC_weightSums kC_weightSums 18 fC_weightSums), (arI rS_worths kS_worths 18 fS_worths)]) hD hS hA [9, 10, 1, 2, 3, 4, 5, 6, 8] rfl
    refine va_calli (va_runV (As := [.ref oC, .ref rS_worths]) (rest := []) ⟨hx, hb, hml, hown, hts⟩ (tX4_weighAll l dC dI _ oL rL_values fL_values kL_values rL_supposed oC iC_nodes iC_words iC_chances iC_unsures iC_slips iC_throneNode iC_saidWorth iC_unit rC_kind fC_kind kC_kind rC_parts fC_parts kC_parts rC_partNodes fC_partNodes kC_partNodes rC_weights fC_weights kC_weights rC_weightSums fC_weightSums kC_weightSums rC_toldWorths rC_steps rC_below rC_above rC_unsureWords rC_unsureWorths rS_worths fS_worths kS_worths b_iC_nodes b_iC_unsures b_iC_throneNode a_fC_parts a_fC_partNodes) (cwV 2 hts (wd_V wd_612 wd_613 wd_614 wd_37 (wd_c wd_615)) rfl rfl rfl dv_yX4_weighAll_2 ⟨Nat.le_of_ble_eq_true rfl, Nat.le_of_ble_eq_true rfl⟩) ⟨Pw.fb, recvX4 hK hP (q0 := 9) rfl, fun U hU hW => Pw.to (hP.sub [9, 10, 1, 2, 3, 4, 5, 6, 8] rfl) (hD.sub [9, 10, 1, 2, 3, 4, 5, 6, 8] (by decide) rfl) (hK.sub [6, 0, 1, 2, 3, 4, 5] rfl) hE hS hFc hU hW⟩ rfl rfl hl.1 rfl (lv_room (Nat.le_of_ble_eq_true rfl)) dX6_settles_24 ⟨Nat.le_of_ble_eq_true rfl, Nat.le_of_ble_eq_true rfl⟩) hS (fun q _ h => hFc q h) hFc (fun r u t H locs ht hvm hw hB hz1 hk1 hS => ?_)
    have hru9 := hw.2
    have hw := hw.1
    refine ex_1_1 hB (fun f_5407 e_f_5407_0 hB => ?_)
    obtain ⟨hP, hD, hK⟩ := Bw.go (ws' := [(oc6 oK oR oC oS oT rK_images iK_imageCount oA oH oL x_5403 iK_latestFault iK_latestPlace), (oc5 oS rS_worths rS_order rS_left), (oc4 oL rL_values rL_supposed), (arI rL_values kL_values 18 f_5407), (oc1 oC iC_nodes iC_words iC_chances iC_unsures iC_slips iC_throneNode iC_saidWorth iC_unit rC_kind rC_parts rC_partNodes rC_weights rC_weightSums rC_toldWorths rC_steps rC_below rC_above rC_unsureWords rC_unsureWorths), (arI rC_kind kC_kind 18 fC_kind), (arI rC_parts kC_parts 18 fC_parts), (arI rC_partNodes kC_partNodes 72 fC_partNodes), (arI rC_weights kC_weights 72 fC_weights), (arI rC_weightSums kC_weightSums 18 fC_weightSums), (arI rS_worths kS_worths 18 fS_worths)]) (tys' := [(kL_values, .int), (kC_kind, .int), (kC_parts, .int), (kC_partNodes, .int), (kC_weights, .int), (kC_weightSums, .int), (kS_worths, .int)]) hB rfl ht hvm hP hD hK [9, 10, 1, 2, 3, 4, 5, 6, 8] [0, 7] rfl (by decide) (by decide) [] hk1 hFc rfl rfl rfl
    clear hz1 hk1 hvm ht hB
    rw [← hru9] at e_f_5407_0
    obtain ⟨x_5408, rfl⟩ : ∃ z, z = r := ⟨_, rfl⟩
    have hG := hG.trans (un2_eq e_f_5407_0)
    refine lv_istore_n (lv' := [(1, .int x_5408), (0, .ref oK)]) hx hb dX6_settles_27 rfl hl (by decide) rfl (fun ls hl => ?_)
    refine lv_iconst (v := 0) hx hb dX6_settles_28 (by decide) ?_
    refine lv_istore_n (lv' := [(2, .int 0), (1, .int x_5408), (0, .ref oK)]) hx hb dX6_settles_29 rfl hl (by decide) rfl (fun ls hl => ?_)
    refine lv_aload_n hx hb dX6_settles_30 rfl (lv_at hl 2 rfl) ?_
    refine va_get (D := (dC, dI)) (ci := 6) (v := .ref oL) (C := RX6) (T := TX6) (N := 12) hx hb hts inX6 hown hK hP 0 rfl rfl 8 (by decide) (hts _ wd_38) (fun _ h9 => h9) rfl dX6_settles_31 ?_
    refine lv_aload_n hx hb dX6_settles_34 rfl (lv_at hl 2 rfl) ?_
    refine va_get (D := (dC, dI)) (ci := 6) (v := .ref oC) (C := RX6) (T := TX6) (N := 12) hx hb hts inX6 hown hK hP 0 rfl rfl 1 (by decide) (hts _ wd_20) (fun _ h9 => h9) rfl dX6_settles_35 ?_
    refine lv_aload_n hx hb dX6_settles_38 rfl (lv_at hl 2 rfl) ?_
    refine va_get (D := (dC, dI)) (ci := 6) (v := .ref oS) (C := RX6) (T := TX6) (N := 12) hx hb hts inX6 hown hK hP 0 rfl rfl 2 (by decide) (hts _ wd_24) (fun _ h9 => h9) rfl dX6_settles_39 ?_
    refine va_get (D := (dC, dI)) (ci := 5) (v := .ref rS_worths) (C := RX5) (T := TX5) (N := 3) hx hb hts inX5 hown hK hP 1 rfl rfl 0 (by decide) (hts _ wd_609) (fun _ h9 => h9) rfl dX6_settles_42 ?_
    have hMs := ml_of hD [false, false, true, true, true, true, false, false, false, false, true] (wc := [(oc4 oL rL_values rL_supposed), (arI rL_values kL_values 18 f_5407), (oc1 oC iC_nodes iC_words iC_chances iC_unsures iC_slips iC_throneNode iC_saidWorth iC_unit rC_kind rC_parts rC_partNodes rC_weights rC_weightSums rC_toldWorths rC_steps rC_below rC_above rC_unsureWords rC_unsureWorths), (arI rC_kind kC_kind 18 fC_kind), (arI rS_worths kS_worths 18 fS_worths)]) rfl
    have hFc := va_freeM hD hS hA _ hMs
    refine va_callv (va_runV (As := [.ref oC, .ref rS_worths]) (rest := []) ⟨hx, hb, hml, hown, hts⟩ (tX4_weighNightNone l dC dI _ oL rL_values f_5407 kL_values rL_supposed oC iC_nodes iC_words iC_chances iC_unsures iC_slips iC_throneNode iC_saidWorth iC_unit rC_kind fC_kind kC_kind rC_parts rC_partNodes rC_weights rC_weightSums rC_toldWorths rC_steps rC_below rC_above rC_unsureWords rC_unsureWorths rS_worths fS_worths kS_worths b_iC_nodes b_iC_unsures b_iC_throneNode) (cwV 2 hts (wd_V wd_1088 wd_1089 wd_1090 wd_37 (wd_c wd_1091)) rfl rfl rfl dv_yX4_weighNightNone_2 ⟨Nat.le_of_ble_eq_true rfl, Nat.le_of_ble_eq_true rfl⟩) ⟨Pw.fb, recvX4 hK hP (q0 := 2) rfl, fun U hU hW => Pw.to (hP.ms _ hMs) (hD.ms _ hMs) (hK.ms [true, true, false, false, false, false, true] rfl) hE hS hFc hU hW⟩ rfl rfl hl.1 rfl (lv_room (Nat.le_of_ble_eq_true rfl)) dX6_settles_45 ⟨Nat.le_of_ble_eq_true rfl, Nat.le_of_ble_eq_true rfl⟩) hS (fun q _ h => hFc q h) hFc (fun u t H locs ht hvm hw hB hz1 hk1 hS => ?_)
    refine ex_1_1 hB (fun f_5409 e_f_5409_0 hB => ?_)
    obtain ⟨hP, hD⟩ := Bw.goN (ws' := [(oc6 oK oR oC oS oT rK_images iK_imageCount oA oH oL x_5403 iK_latestFault iK_latestPlace), (oc5 oS rS_worths rS_order rS_left), (oc4 oL rL_values rL_supposed), (arI rL_values kL_values 18 f_5409), (oc1 oC iC_nodes iC_words iC_chances iC_unsures iC_slips iC_throneNode iC_saidWorth iC_unit rC_kind rC_parts rC_partNodes rC_weights rC_weightSums rC_toldWorths rC_steps rC_below rC_above rC_unsureWords rC_unsureWorths), (arI rC_kind kC_kind 18 fC_kind), (arI rC_parts kC_parts 18 fC_parts), (arI rC_partNodes kC_partNodes 72 fC_partNodes), (arI rC_weights kC_weights 72 fC_weights), (arI rC_weightSums kC_weightSums 18 fC_weightSums), (arI rS_worths kS_worths 18 fS_worths)]) hB rfl ht hP hD _ hMs hk1 hFc rfl
    clear hz1 hk1 hvm ht hB hMs
    have hG := hG.trans (lt_eq e_f_5409_0.symm)
    refine lv_iconst (v := 0) hx hb dX6_settles_48 (by decide) ?_
    refine lv_istore_n (lv' := [(3, .int 0), (2, .int 0), (1, .int x_5408), (0, .ref oK)]) hx hb dX6_settles_49 rfl hl (by decide) rfl (fun ls hl => ?_)
    have hl := lv_sub hl (l' := [(3, .int 0), (2, .int 0), (1, .int x_5408), (0, .ref oK)]) [0, 1, 2, 3] rfl
    have key_n_5413 : ∀ (n_5413 : Nat) (z_5410 : Int32) (z_5411 : Int32) (f_5412 : Nat → Int32) (H : Heap) (locs : List Loc) (ls : Array Slot), (0 ≤ z_5410.toInt ∧ z_5410.toInt ≤ 10) → (10 - z_5410.toInt).toNat < n_5413 → (PX6_settles iC_nodes iC_throneNode iC_unit fC_kind fC_parts fC_partNodes fC_weights fC_weightSums fS_worths fL_values = HX6_settles_0 iC_nodes iC_throneNode fC_kind fC_parts fC_partNodes fC_weights fC_weightSums x_5403 x_5408 n_5413 z_5410 z_5411 f_5412) → va_P (dC, dI) vwCl [(oc6 oK oR oC oS oT rK_images iK_imageCount oA oH oL x_5403 iK_latestFault iK_latestPlace), (oc5 oS rS_worths rS_order rS_left), (oc4 oL rL_values rL_supposed), (arI rL_values kL_values 18 f_5412), (oc1 oC iC_nodes iC_words iC_chances iC_unsures iC_slips iC_throneNode iC_saidWorth iC_unit rC_kind rC_parts rC_partNodes rC_weights rC_weightSums rC_toldWorths rC_steps rC_below rC_above rC_unsureWords rC_unsureWorths), (arI rC_kind kC_kind 18 fC_kind), (arI rC_parts kC_parts 18 fC_parts), (arI rC_partNodes kC_partNodes 72 fC_partNodes), (arI rC_weights kC_weights 72 fC_weights), (arI rC_weightSums kC_weightSums 18 fC_weightSums), (arI rS_worths kS_worths 18 fS_worths)] H → va_D A [(oc6 oK oR oC oS oT rK_images iK_imageCount oA oH oL x_5403 iK_latestFault iK_latestPlace), (oc5 oS rS_worths rS_order rS_left), (oc4 oL rL_values rL_supposed), (arI rL_values kL_values 18 f_5412), (oc1 oC iC_nodes iC_words iC_chances iC_unsures iC_slips iC_throneNode iC_saidWorth iC_unit rC_kind rC_parts rC_partNodes rC_weights rC_weightSums rC_toldWorths rC_steps rC_below rC_above rC_unsureWords rC_unsureWorths), (arI rC_kind kC_kind 18 fC_kind), (arI rC_parts kC_parts 18 fC_parts), (arI rC_partNodes kC_partNodes 72 fC_partNodes), (arI rC_weights kC_weights 72 fC_weights), (arI rC_weightSums kC_weightSums 18 fC_weightSums), (arI rS_worths kS_worths 18 fS_worths)] → va_S A s.heap H locs → lv_has ls 4 [(3, .int z_5410), (2, .int z_5411), (1, .int x_5408), (0, .ref oK)] → W p l e (headSpec (Cond.code yX6_settles cX6_settles 4 (some .int) :: wG) ({ frames := 3, cells := 0, slots := 0, locals := 71 })).room s m ([.ref oK] : List Value).toArray below meth c H locs 0 0 (MQ below (va_Qi (fun (r : Int32) (u : Nat) => (True ∧ True) ∧ r = Int32.ofNat u) (fun (u : Nat) (t : State) => ∃ (niK_refusal : Int32) (nfL_values : Nat → Int32), (PX6_settles iC_nodes iC_throneNode iC_unit fC_kind fC_parts fC_partNodes fC_weights fC_weightSums fS_worths fL_values = (Int32.ofNat u, niK_refusal, nfL_values)) ∧ Bw dC dI A [(oc6 oK oR oC oS oT rK_images iK_imageCount oA oH oL niK_refusal iK_latestFault iK_latestPlace), (oc1 oC iC_nodes iC_words iC_chances iC_unsures iC_slips iC_throneNode iC_saidWorth iC_unit rC_kind rC_parts rC_partNodes rC_weights rC_weightSums rC_toldWorths rC_steps rC_below rC_above rC_unsureWords rC_unsureWorths), (arI rC_kind kC_kind 18 fC_kind), (arI rC_parts kC_parts 18 fC_parts), (arI rC_partNodes kC_partNodes 72 fC_partNodes), (arI rC_weights kC_weights 72 fC_weights), (arI rC_weightSums kC_weightSums 18 fC_weightSums), (oc5 oS rS_worths rS_order rS_left), (arI rS_worths kS_worths 18 fS_worths), (oc4 oL rL_values rL_supposed), (arI rL_values kL_values 18 nfL_values)] [(kC_kind, .int), (kC_parts, .int), (kC_partNodes, .int), (kC_weights, .int), (kC_weightSums, .int), (kS_worths, .int), (kL_values, .int)] t) A) ([.ref oK] : List Value).toArray s 0 0 A) (F0 m 50 ls []) := by
      intro n_5413
      induction n_5413 with
      | zero => intro z_5410 z_5411 f_5412 H locs ls hi0_n_5413 hm; exact absurd hm (Nat.not_lt_zero _)
      | succ n_5413 ih_n_5413 =>
        intro z_5410 z_5411 f_5412 H locs ls hi0_n_5413 hm_n_5413 hG hP hD hS hl
        have hG := hG.trans (HX6_settles_0_eq _ _ _ _ _ _ _ _ _ _ _ _ _)
        refine lv_iload_n hx hb dX6_settles_50 rfl (lv_at hl 0 rfl) ?_
        refine lv_bipush (v := 9) hx hb dX6_settles_51 (by decide) ?_
        refine lv_icmp_gt (tgt := 96) hx hb dX6_settles_53 (by decide) (fun c_5414 => ?_) (fun c_5414 => ?_)
        · skip
          have hG := hG.trans (if_pos c_5414)
          have gc_5414 := ti_lt c_5414 kc_9 rfl
          refine lv_iload_n hx hb dX6_settles_96 rfl (lv_at hl 1 rfl) ?_
          exact wq_i hx hb hr (cI z_5411) ⟨⟨trivial, trivial⟩, (cI_of z_5411)⟩ (fun t ht hW => ⟨x_5403, f_5412, (cI_tup hG), Bw.to (hP.sub [0, 4, 5, 6, 7, 8, 9, 1, 10, 2, 3] rfl) (hD.sub [0, 4, 5, 6, 7, 8, 9, 1, 10, 2, 3] (by decide) rfl) (hK.sub [1, 2, 3, 4, 5, 6, 0] rfl) ht hW⟩) hS dX6_settles_97 hlocks
        · skip
          have hG := hG.trans (if_neg c_5414)
          have gc_5414 := ti_nlt c_5414 kc_9 rfl
          refine lv_aload_n hx hb dX6_settles_56 rfl (lv_at hl 3 rfl) ?_
          refine va_get (D := (dC, dI)) (ci := 6) (v := .ref oL) (C := RX6) (T := TX6) (N := 12) hx hb hts inX6 hown hK hP 0 rfl rfl 8 (by decide) (hts _ wd_38) (fun _ h9 => h9) rfl dX6_settles_57 ?_
          refine va_get (D := (dC, dI)) (ci := 4) (v := .ref rL_values) (C := RX4) (T := TX4) (N := 2) hx hb hts inX4 hown hK hP 2 rfl rfl 0 (by decide) (hts _ wd_610) (fun _ h9 => h9) rfl dX6_settles_60 ?_
          refine lv_aload_n hx hb dX6_settles_63 rfl (lv_at hl 3 rfl) ?_
          refine va_get (D := (dC, dI)) (ci := 6) (v := .ref oC) (C := RX6) (T := TX6) (N := 12) hx hb hts inX6 hown hK hP 0 rfl rfl 1 (by decide) (hts _ wd_20) (fun _ h9 => h9) rfl dX6_settles_64 ?_
          refine va_get (D := (dC, dI)) (ci := 1) (v := .int iC_throneNode) (C := RX1) (T := TX1) (N := 19) hx hb hts inX1 hown hK hP 4 rfl rfl 5 (by decide) (hts _ wd_595) (fun _ h9 => h9) rfl dX6_settles_67 ?_
          have thr9 : 0 ≤ iC_throneNode.toInt := by omega
          refine va_iald hx hb hK hP 3 0 rfl rfl (ti_in rfl thr9 (om_b3735a34 b_iC_throneNode.2)) dX6_settles_70 ?_
          refine lv_topi (fun x_5415 ex_5415 => ?_)
          have hG := hG.trans (lt_eq ex_5415)
          have kx_5415 : (f_5412 iC_throneNode.toNatClampNeg).toInt = x_5415.toInt := by rw [ex_5415]
          refine lv_iload_n hx hb dX6_settles_71 rfl (lv_at hl 2 rfl) ?_
          refine lv_icmp_eq (tgt := 79) hx hb dX6_settles_72 (by decide) (fun c_5416 => ?_) (fun c_5416 => ?_)
          · skip
            have hG := hG.trans (if_pos c_5416)
            have gc_5416 := ti_eq c_5416 rfl rfl
            refine lv_aload_n hx hb dX6_settles_79 rfl (lv_at hl 3 rfl) ?_
            refine va_get (D := (dC, dI)) (ci := 6) (v := .ref oL) (C := RX6) (T := TX6) (N := 12) hx hb hts inX6 hown hK hP 0 rfl rfl 8 (by decide) (hts _ wd_38) (fun _ h9 => h9) rfl dX6_settles_80 ?_
            refine lv_aload_n hx hb dX6_settles_83 rfl (lv_at hl 3 rfl) ?_
            refine va_get (D := (dC, dI)) (ci := 6) (v := .ref oC) (C := RX6) (T := TX6) (N := 12) hx hb hts inX6 hown hK hP 0 rfl rfl 1 (by decide) (hts _ wd_20) (fun _ h9 => h9) rfl dX6_settles_84 ?_
            have hMs := ml_of hD [false, false, true, true, true, true, true, true, true, true, false] (wc := [(oc4 oL rL_values rL_supposed), (arI rL_values kL_values 18 f_5412), (oc1 oC iC_nodes iC_words iC_chances iC_unsures iC_slips iC_throneNode iC_saidWorth iC_unit rC_kind rC_parts rC_partNodes rC_weights rC_weightSums rC_toldWorths rC_steps rC_below rC_above rC_unsureWords rC_unsureWorths), (arI rC_kind kC_kind 18 fC_kind), (arI rC_parts kC_parts 18 fC_parts), (arI rC_partNodes kC_partNodes 72 fC_partNodes), (arI rC_weights kC_weights 72 fC_weights), (arI rC_weightSums kC_weightSums 18 fC_weightSums)]) rfl
            have hFc := va_freeM hD hS hA _ hMs
            refine va_callv (va_runV (As := [.ref oC]) (rest := []) ⟨hx, hb, hml, hown, hts⟩ (tX4_weighNextNight l dC dI _ oL rL_values f_5412 kL_values rL_supposed oC iC_nodes iC_words iC_chances iC_unsures iC_slips iC_throneNode iC_saidWorth iC_unit rC_kind fC_kind kC_kind rC_parts fC_parts kC_parts rC_partNodes fC_partNodes kC_partNodes rC_weights fC_weights kC_weights rC_weightSums fC_weightSums kC_weightSums rC_toldWorths rC_steps rC_below rC_above rC_unsureWords rC_unsureWorths b_iC_nodes b_iC_unsures b_iC_throneNode a_fC_parts a_fC_partNodes) (cwV 1 hts (wd_V wd_1092 wd_1093 wd_1094 wd_37 (wd_c wd_1095)) rfl rfl rfl dv_yX4_weighNextNight_1 ⟨Nat.le_of_ble_eq_true rfl, Nat.le_of_ble_eq_true rfl⟩) ⟨Pw.fb, recvX4 hK hP (q0 := 2) rfl, fun U hU hW => Pw.to (hP.ms _ hMs) (hD.ms _ hMs) (hK.ms [true, true, true, true, true, true, false] rfl) hE hS hFc hU hW⟩ rfl rfl hl.1 rfl (lv_room (Nat.le_of_ble_eq_true rfl)) dX6_settles_87 ⟨Nat.le_of_ble_eq_true rfl, Nat.le_of_ble_eq_true rfl⟩) hS (fun q _ h => hFc q h) hFc (fun u t H locs ht hvm hw hB hz1 hk1 hS => ?_)
            refine ex_1_1 hB (fun f_5417 e_f_5417_0 hB => ?_)
            obtain ⟨hP, hD⟩ := Bw.goN (ws' := [(oc6 oK oR oC oS oT rK_images iK_imageCount oA oH oL x_5403 iK_latestFault iK_latestPlace), (oc5 oS rS_worths rS_order rS_left), (oc4 oL rL_values rL_supposed), (arI rL_values kL_values 18 f_5417), (oc1 oC iC_nodes iC_words iC_chances iC_unsures iC_slips iC_throneNode iC_saidWorth iC_unit rC_kind rC_parts rC_partNodes rC_weights rC_weightSums rC_toldWorths rC_steps rC_below rC_above rC_unsureWords rC_unsureWorths), (arI rC_kind kC_kind 18 fC_kind), (arI rC_parts kC_parts 18 fC_parts), (arI rC_partNodes kC_partNodes 72 fC_partNodes), (arI rC_weights kC_weights 72 fC_weights), (arI rC_weightSums kC_weightSums 18 fC_weightSums), (arI rS_worths kS_worths 18 fS_worths)]) hB rfl ht hP hD _ hMs hk1 hFc rfl
            clear hz1 hk1 hvm ht hB hMs
            have hG := hG.trans (lt_eq e_f_5417_0.symm)
            obtain ⟨x_5418, ex_5418⟩ : ∃ z : Int32, z = z_5410 + Int32.ofInt 1 := ⟨_, rfl⟩
            have hG := hG.trans (lt_eq ex_5418)
            have vx_5418 : x_5418.toInt = z_5410.toInt + 1 := ti_add (y := 1) ex_5418 rfl kc_1 (om_4e4fce7e hi0_n_5413.1) (om_83344fb1 hi0_n_5413.2)
            refine lv_iinc (v := x_5418) (lv' := [(3, .int x_5418), (2, .int z_5411), (1, .int x_5408), (0, .ref oK)]) hx hb dX6_settles_90 hl (k := 0) rfl ex_5418.symm (by decide) rfl (fun ls hl => ?_)
            refine lv_goto (tgt := 50) hx hb dX6_settles_93 (by decide) ?_
            exact ih_n_5413 x_5418 z_5411 f_5417 _ _ _  ⟨(om_83b90de5 hi0_n_5413.1 vx_5418), (om_a596ea43 gc_5414 vx_5418)⟩ (ms_lt hm_n_5413 (om_73004bc9 vx_5418) (om_8ed03fa4 gc_5414)) hG hP hD hS (lv_sub hl [0, 1, 2, 3] rfl)
          · skip
            have hG := hG.trans (if_neg c_5416)
            have gc_5416 := ti_ne c_5416 rfl rfl
            refine lv_iload_n hx hb dX6_settles_75 rfl (lv_at hl 0 rfl) ?_
            refine lv_iconst (v := 1) hx hb dX6_settles_76 (by decide) ?_
            refine lv_iadd hx hb dX6_settles_77 ?_
            refine lv_topi (fun x_5419 ex_5419 => ?_)
            have hG := hG.trans (lt_eq ex_5419)
            have vx_5419 : x_5419.toInt = z_5410.toInt + 1 := ti_add ex_5419 rfl kc_1 (om_4e4fce7e hi0_n_5413.1) (om_83344fb1 hi0_n_5413.2)
            refine lv_istore_n (lv' := [(2, .int x_5419), (3, .int z_5410), (1, .int x_5408), (0, .ref oK)]) hx hb dX6_settles_78 rfl hl (by decide) rfl (fun ls hl => ?_)
            refine lv_aload_n hx hb dX6_settles_79 rfl (lv_at hl 3 rfl) ?_
            refine va_get (D := (dC, dI)) (ci := 6) (v := .ref oL) (C := RX6) (T := TX6) (N := 12) hx hb hts inX6 hown hK hP 0 rfl rfl 8 (by decide) (hts _ wd_38) (fun _ h9 => h9) rfl dX6_settles_80 ?_
            refine lv_aload_n hx hb dX6_settles_83 rfl (lv_at hl 3 rfl) ?_
            refine va_get (D := (dC, dI)) (ci := 6) (v := .ref oC) (C := RX6) (T := TX6) (N := 12) hx hb hts inX6 hown hK hP 0 rfl rfl 1 (by decide) (hts _ wd_20) (fun _ h9 => h9) rfl dX6_settles_84 ?_
            have hMs := ml_of hD [false, false, true, true, true, true, true, true, true, true, false] (wc := [(oc4 oL rL_values rL_supposed), (arI rL_values kL_values 18 f_5412), (oc1 oC iC_nodes iC_words iC_chances iC_unsures iC_slips iC_throneNode iC_saidWorth iC_unit rC_kind rC_parts rC_partNodes rC_weights rC_weightSums rC_toldWorths rC_steps rC_below rC_above rC_unsureWords rC_unsureWorths), (arI rC_kind kC_kind 18 fC_kind), (arI rC_parts kC_parts 18 fC_parts), (arI rC_partNodes kC_partNodes 72 fC_partNodes), (arI rC_weights kC_weights 72 fC_weights), (arI rC_weightSums kC_weightSums 18 fC_weightSums)]) rfl
            have hFc := va_freeM hD hS hA _ hMs
            refine va_callv (va_runV (As := [.ref oC]) (rest := []) ⟨hx, hb, hml, hown, hts⟩ (tX4_weighNextNight l dC dI _ oL rL_values f_5412 kL_values rL_supposed oC iC_nodes iC_words iC_chances iC_unsures iC_slips iC_throneNode iC_saidWorth iC_unit rC_kind fC_kind kC_kind rC_parts fC_parts kC_parts rC_partNodes fC_partNodes kC_partNodes rC_weights fC_weights kC_weights rC_weightSums fC_weightSums kC_weightSums rC_toldWorths rC_steps rC_below rC_above rC_unsureWords rC_unsureWorths b_iC_nodes b_iC_unsures b_iC_throneNode a_fC_parts a_fC_partNodes) (cwV 1 hts (wd_V wd_1092 wd_1093 wd_1094 wd_37 (wd_c wd_1095)) rfl rfl rfl dv_yX4_weighNextNight_1 ⟨Nat.le_of_ble_eq_true rfl, Nat.le_of_ble_eq_true rfl⟩) ⟨Pw.fb, recvX4 hK hP (q0 := 2) rfl, fun U hU hW => Pw.to (hP.ms _ hMs) (hD.ms _ hMs) (hK.ms [true, true, true, true, true, true, false] rfl) hE hS hFc hU hW⟩ rfl rfl hl.1 rfl (lv_room (Nat.le_of_ble_eq_true rfl)) dX6_settles_87 ⟨Nat.le_of_ble_eq_true rfl, Nat.le_of_ble_eq_true rfl⟩) hS (fun q _ h => hFc q h) hFc (fun u t H locs ht hvm hw hB hz1 hk1 hS => ?_)
            refine ex_1_1 hB (fun f_5420 e_f_5420_0 hB => ?_)
            obtain ⟨hP, hD⟩ := Bw.goN (ws' := [(oc6 oK oR oC oS oT rK_images iK_imageCount oA oH oL x_5403 iK_latestFault iK_latestPlace), (oc5 oS rS_worths rS_order rS_left), (oc4 oL rL_values rL_supposed), (arI rL_values kL_values 18 f_5420), (oc1 oC iC_nodes iC_words iC_chances iC_unsures iC_slips iC_throneNode iC_saidWorth iC_unit rC_kind rC_parts rC_partNodes rC_weights rC_weightSums rC_toldWorths rC_steps rC_below rC_above rC_unsureWords rC_unsureWorths), (arI rC_kind kC_kind 18 fC_kind), (arI rC_parts kC_parts 18 fC_parts), (arI rC_partNodes kC_partNodes 72 fC_partNodes), (arI rC_weights kC_weights 72 fC_weights), (arI rC_weightSums kC_weightSums 18 fC_weightSums), (arI rS_worths kS_worths 18 fS_worths)]) hB rfl ht hP hD _ hMs hk1 hFc rfl
            clear hz1 hk1 hvm ht hB hMs
            have hG := hG.trans (lt_eq e_f_5420_0.symm)
            obtain ⟨x_5421, ex_5421⟩ : ∃ z : Int32, z = z_5410 + Int32.ofInt 1 := ⟨_, rfl⟩
            have hG := hG.trans (lt_eq ex_5421)
            have vx_5421 : x_5421.toInt = z_5410.toInt + 1 := ti_add (y := 1) ex_5421 rfl kc_1 (om_4e4fce7e hi0_n_5413.1) (om_83344fb1 hi0_n_5413.2)
            refine lv_iinc (v := x_5421) (lv' := [(3, .int x_5421), (2, .int x_5419), (1, .int x_5408), (0, .ref oK)]) hx hb dX6_settles_90 hl (k := 1) rfl ex_5421.symm (by decide) rfl (fun ls hl => ?_)
            refine lv_goto (tgt := 50) hx hb dX6_settles_93 (by decide) ?_
            exact ih_n_5413 x_5421 x_5419 f_5420 _ _ _  ⟨(om_83b90de5 hi0_n_5413.1 vx_5421), (om_a596ea43 gc_5414 vx_5421)⟩ (ms_lt hm_n_5413 (om_73004bc9 vx_5421) (om_8ed03fa4 gc_5414)) hG hP hD hS (lv_sub hl [0, 1, 2, 3] rfl)
    exact key_n_5413 (((10 - (0 : Int32).toInt).toNat) + 1) 0 0 f_5409 _ _ _  ⟨(om_b1de7dbe kc_0), (om_3bc63eac kc_0)⟩ (Nat.lt_add_one _) hG hP hD hS hl
  · skip
    have hG := hG.trans (un2_eq e_x_5403_0)
    have hG := hG.trans (if_neg (by decide))
    refine lv_if_eq (tgt := 9) hx hb dX6_settles_4 (by decide) (fun c => absurd c (by decide)) (fun _ => ?_)
    refine lv_iconst (v := (-1)) hx hb dX6_settles_7 (by decide) ?_
    exact wq_i hx hb hr (cI (-1)) ⟨⟨trivial, trivial⟩, (cI_of (-1))⟩ (fun t ht hW => ⟨x_5403, fL_values, (cI_tup hG), Bw.to hP hD hK ht hW⟩) hS dX6_settles_8 hlocks
set_option maxHeartbeats 4000000 in
set_option maxRecDepth 100000 in
theorem tX6_leastTurnTowards (l : Launch) (dC : Nat → ClassId) (dI : Nat → Nat → Nat) (sz : Nat) (oK : Nat) (oR : Nat) (oC : Nat) (oS : Nat) (oT : Nat) (rK_images : Nat) (iK_imageCount : Int32) (oA : Nat) (oH : Nat) (oL : Nat) (iK_refusal : Int32) (iK_latestFault : Int32) (iK_latestPlace : Int32) (iC_nodes : Int32) (iC_words : Int32) (iC_chances : Int32) (iC_unsures : Int32) (iC_slips : Int32) (iC_throneNode : Int32) (iC_saidWorth : Int32) (iC_unit : Int32) (rC_kind : Nat) (fC_kind : Nat → Int32) (kC_kind : ClassId) (rC_parts : Nat) (fC_parts : Nat → Int32) (kC_parts : ClassId) (rC_partNodes : Nat) (fC_partNodes : Nat → Int32) (kC_partNodes : ClassId) (rC_weights : Nat) (fC_weights : Nat → Int32) (kC_weights : ClassId) (rC_weightSums : Nat) (fC_weightSums : Nat → Int32) (kC_weightSums : ClassId) (rC_toldWorths : Nat) (rC_steps : Nat) (rC_below : Nat) (rC_above : Nat) (rC_unsureWords : Nat) (rC_unsureWorths : Nat) (rS_worths : Nat) (fS_worths : Nat → Int32) (kS_worths : ClassId) (rS_order : Nat) (rS_left : Nat) (rL_values : Nat) (fL_values : Nat → Int32) (kL_values : ClassId) (rL_supposed : Nat) (fL_supposed : Nat → Int32) (kL_supposed : ClassId) (p0 : Int32) (p1 : Int32) (p2 : Int32) (p3 : Int32) (b_iK_imageCount : 0 ≤ iK_imageCount.toInt ∧ iK_imageCount.toInt ≤ 3) (b_iC_nodes : 0 ≤ iC_nodes.toInt ∧ iC_nodes.toInt ≤ 18) (b_iC_unsures : 0 ≤ iC_unsures.toInt ∧ iC_unsures.toInt ≤ 4) (b_iC_throneNode : (-1) ≤ iC_throneNode.toInt ∧ iC_throneNode.toInt ≤ 17) (a_fC_parts : ∀ j : Nat, j < 18 → 0 ≤ (fC_parts j).toInt ∧ (fC_parts j).toInt ≤ 4) (a_fC_partNodes : ∀ j : Nat, j < 72 → 0 ≤ (fC_partNodes j).toInt ∧ (fC_partNodes j).toInt ≤ 17) (hp0 : 0 ≤ p0.toInt ∧ p0.toInt ≤ 17) : Met l yX6_leastTurnTowards (Cond.code yX6_leastTurnTowards cX6_leastTurnTowards 9 (some .int) :: wG) ({ frames := 4, cells := 0, slots := 0, locals := 95 }) (va_Pc [.ref oK, .int p0, .int p1, .int p2, .int p3] (Pw dC dI sz [(oc6 oK oR oC oS oT rK_images iK_imageCount oA oH oL iK_refusal iK_latestFault iK_latestPlace), (oc1 oC iC_nodes iC_words iC_chances iC_unsures iC_slips iC_throneNode iC_saidWorth iC_unit rC_kind rC_parts rC_partNodes rC_weights rC_weightSums rC_toldWorths rC_steps rC_below rC_above rC_unsureWords rC_unsureWorths), (arI rC_kind kC_kind 18 fC_kind), (arI rC_parts kC_parts 18 fC_parts), (arI rC_partNodes kC_partNodes 72 fC_partNodes), (arI rC_weights kC_weights 72 fC_weights), (arI rC_weightSums kC_weightSums 18 fC_weightSums), (oc5 oS rS_worths rS_order rS_left), (arI rS_worths kS_worths 18 fS_worths), (oc4 oL rL_values rL_supposed), (arI rL_values kL_values 18 fL_values), (arI rL_supposed kL_supposed 18 fL_supposed)] [(kC_kind, .int), (kC_parts, .int), (kC_partNodes, .int), (kC_weights, .int), (kC_weightSums, .int), (kS_worths, .int), (kL_values, .int), (kL_supposed, .int)])) (va_Qi (fun (r : Int32) (u : Nat) => (True ∧ True) ∧ r = Int32.ofNat u) (fun (u : Nat) (t : State) => ∃ (nfL_values : Nat → Int32) (nfL_supposed : Nat → Int32), (PX6_leastTurnTowards iC_nodes iC_throneNode iC_unit fC_kind fC_parts fC_partNodes fC_weights fC_weightSums fS_worths fL_values fL_supposed p0 p1 p2 p3 = (Int32.ofNat u, nfL_values, nfL_supposed)) ∧ Bw dC dI (va_A [(oc6 oK oR oC oS oT rK_images iK_imageCount oA oH oL iK_refusal iK_latestFault iK_latestPlace), (oc1 oC iC_nodes iC_words iC_chances iC_unsures iC_slips iC_throneNode iC_saidWorth iC_unit rC_kind rC_parts rC_partNodes rC_weights rC_weightSums rC_toldWorths rC_steps rC_below rC_above rC_unsureWords rC_unsureWorths), (arI rC_kind kC_kind 18 fC_kind), (arI rC_parts kC_parts 18 fC_parts), (arI rC_partNodes kC_partNodes 72 fC_partNodes), (arI rC_weights kC_weights 72 fC_weights), (arI rC_weightSums kC_weightSums 18 fC_weightSums), (oc5 oS rS_worths rS_order rS_left), (arI rS_worths kS_worths 18 fS_worths), (oc4 oL rL_values rL_supposed), (arI rL_values kL_values 18 fL_values), (arI rL_supposed kL_supposed 18 fL_supposed)] sz) [(oc6 oK oR oC oS oT rK_images iK_imageCount oA oH oL iK_refusal iK_latestFault iK_latestPlace), (oc1 oC iC_nodes iC_words iC_chances iC_unsures iC_slips iC_throneNode iC_saidWorth iC_unit rC_kind rC_parts rC_partNodes rC_weights rC_weightSums rC_toldWorths rC_steps rC_below rC_above rC_unsureWords rC_unsureWorths), (arI rC_kind kC_kind 18 fC_kind), (arI rC_parts kC_parts 18 fC_parts), (arI rC_partNodes kC_partNodes 72 fC_partNodes), (arI rC_weights kC_weights 72 fC_weights), (arI rC_weightSums kC_weightSums 18 fC_weightSums), (oc5 oS rS_worths rS_order rS_left), (arI rS_worths kS_worths 18 fS_worths), (oc4 oL rL_values rL_supposed), (arI rL_values kL_values 18 nfL_values), (arI rL_supposed kL_supposed 18 nfL_supposed)] [(kC_kind, .int), (kC_parts, .int), (kC_partNodes, .int), (kC_weights, .int), (kC_weightSums, .int), (kS_worths, .int), (kL_values, .int), (kL_supposed, .int)] t) (va_A [(oc6 oK oR oC oS oT rK_images iK_imageCount oA oH oL iK_refusal iK_latestFault iK_latestPlace), (oc1 oC iC_nodes iC_words iC_chances iC_unsures iC_slips iC_throneNode iC_saidWorth iC_unit rC_kind rC_parts rC_partNodes rC_weights rC_weightSums rC_toldWorths rC_steps rC_below rC_above rC_unsureWords rC_unsureWorths), (arI rC_kind kC_kind 18 fC_kind), (arI rC_parts kC_parts 18 fC_parts), (arI rC_partNodes kC_partNodes 72 fC_partNodes), (arI rC_weights kC_weights 72 fC_weights), (arI rC_weightSums kC_weightSums 18 fC_weightSums), (oc5 oS rS_worths rS_order rS_left), (arI rS_worths kS_worths 18 fS_worths), (oc4 oL rL_values rL_supposed), (arI rL_values kL_values 18 fL_values), (arI rL_supposed kL_supposed 18 fL_supposed)] sz)) 0 0 (va_A [(oc6 oK oR oC oS oT rK_images iK_imageCount oA oH oL iK_refusal iK_latestFault iK_latestPlace), (oc1 oC iC_nodes iC_words iC_chances iC_unsures iC_slips iC_throneNode iC_saidWorth iC_unit rC_kind rC_parts rC_partNodes rC_weights rC_weightSums rC_toldWorths rC_steps rC_below rC_above rC_unsureWords rC_unsureWorths), (arI rC_kind kC_kind 18 fC_kind), (arI rC_parts kC_parts 18 fC_parts), (arI rC_partNodes kC_partNodes 72 fC_partNodes), (arI rC_weights kC_weights 72 fC_weights), (arI rC_weightSums kC_weightSums 18 fC_weightSums), (oc5 oS rS_worths rS_order rS_left), (arI rS_worths kS_worths 18 fS_worths), (oc4 oL rL_values rL_supposed), (arI rL_values kL_values 18 fL_values), (arI rL_supposed kL_supposed 18 fL_supposed)] sz) := by
  refine Met.ofW (cc := cX6_leastTurnTowards) (maxL := 9) (ret := (some .int)) pnX6 rfl ?_
  intro p e s m args below meth c s₁ B hml hv
  obtain ⟨rfl, hsz, hP, hK, hD0, hE⟩ := hv
  have hx := B.exec
  have hb := B.bytes
  have hr := B.returns
  have hts : ∀ w ∈ wG, w.before ([.ref oK, .int p0, .int p1, .int p2, .int p3] : List Value).toArray s = true := fun w h => atoms_spec (ws := Cond.code yX6_leastTurnTowards cX6_leastTurnTowards 9 (some .int) :: wG) B.pre w (List.mem_cons_of_mem _ h)
  have hown : s.vm.findClass RX6 = some m.cls := own_of B.named rfl
  have hlocks := B.notSynchronized
  subst hsz
  have hD := hD0.self (sz := s.heap.size)
  generalize hAe : va_A [(oc6 oK oR oC oS oT rK_images iK_imageCount oA oH oL iK_refusal iK_latestFault iK_latestPlace), (oc1 oC iC_nodes iC_words iC_chances iC_unsures iC_slips iC_throneNode iC_saidWorth iC_unit rC_kind rC_parts rC_partNodes rC_weights rC_weightSums rC_toldWorths rC_steps rC_below rC_above rC_unsureWords rC_unsureWorths), (arI rC_kind kC_kind 18 fC_kind), (arI rC_parts kC_parts 18 fC_parts), (arI rC_partNodes kC_partNodes 72 fC_partNodes), (arI rC_weights kC_weights 72 fC_weights), (arI rC_weightSums kC_weightSums 18 fC_weightSums), (oc5 oS rS_worths rS_order rS_left), (arI rS_worths kS_worths 18 fS_worths), (oc4 oL rL_values rL_supposed), (arI rL_values kL_values 18 fL_values), (arI rL_supposed kL_supposed 18 fL_supposed)] s.heap.size = A at hD hE ⊢
  have hA : ∀ q : Nat, s.heap.size ≤ q → A q := fun q h => by rw [← hAe]; exact Or.inr h
  have hS : va_S A s.heap s.heap [] := va_S.rf
  have hl := lv_entry ([.ref oK, .int p0, .int p1, .int p2, .int p3]) (n := 9) (Nat.le_of_ble_eq_true rfl)
  rw [lg_entry_eq]
  generalize (lg_sl ([.ref oK, .int p0, .int p1, .int p2, .int p3]) ++ List.replicate (9 - (lg_sl ([.ref oK, .int p0, .int p1, .int p2, .int p3])).length) Slot.unset).toArray = ls at hl ⊢
  have hl : lv_has ls 9 [(0, .ref oK), (1, .int p0), (2, .int p1), (3, .int p2), (4, .int p3)] := hl
  have hG := PX6_leastTurnTowards_eq iC_nodes iC_throneNode iC_unit fC_kind fC_parts fC_partNodes fC_weights fC_weightSums fS_worths fL_values fL_supposed p0 p1 p2 p3
  have rg_p0 := fb_rng p0
  have rg_p1 := fb_rng p1
  have rg_p2 := fb_rng p2
  have rg_p3 := fb_rng p3
  refine lv_aload_n hx hb dX6_leastTurnTowards_0 rfl (lv_at hl 0 rfl) ?_
  refine va_get (D := (dC, dI)) (ci := 6) (v := .ref oL) (C := RX6) (T := TX6) (N := 12) hx hb hts inX6 hown hK hP 0 rfl rfl 8 (by decide) (hts _ wd_38) (fun _ h9 => h9) rfl dX6_leastTurnTowards_1 ?_
  refine lv_aload_n hx hb dX6_leastTurnTowards_4 rfl (lv_at hl 0 rfl) ?_
  refine va_get (D := (dC, dI)) (ci := 6) (v := .ref oC) (C := RX6) (T := TX6) (N := 12) hx hb hts inX6 hown hK hP 0 rfl rfl 1 (by decide) (hts _ wd_20) (fun _ h9 => h9) rfl dX6_leastTurnTowards_5 ?_
  refine lv_aload_n hx hb dX6_leastTurnTowards_8 rfl (lv_at hl 0 rfl) ?_
  refine va_get (D := (dC, dI)) (ci := 6) (v := .ref oS) (C := RX6) (T := TX6) (N := 12) hx hb hts inX6 hown hK hP 0 rfl rfl 2 (by decide) (hts _ wd_24) (fun _ h9 => h9) rfl dX6_leastTurnTowards_9 ?_
  refine lv_iload_n hx hb dX6_leastTurnTowards_12 rfl (lv_at hl 1 rfl) ?_
  refine lv_aload_n hx hb dX6_leastTurnTowards_13 rfl (lv_at hl 0 rfl) ?_
  refine va_get (D := (dC, dI)) (ci := 6) (v := .ref oS) (C := RX6) (T := TX6) (N := 12) hx hb hts inX6 hown hK hP 0 rfl rfl 2 (by decide) (hts _ wd_24) (fun _ h9 => h9) rfl dX6_leastTurnTowards_14 ?_
  refine va_get (D := (dC, dI)) (ci := 5) (v := .ref rS_worths) (C := RX5) (T := TX5) (N := 3) hx hb hts inX5 hown hK hP 7 rfl rfl 0 (by decide) (hts _ wd_609) (fun _ h9 => h9) rfl dX6_leastTurnTowards_17 ?_
  refine lv_iload_n hx hb dX6_leastTurnTowards_20 rfl (lv_at hl 1 rfl) ?_
  refine va_iald hx hb hK hP 8 5 rfl rfl (ti_in rfl hp0.1 (om_b3735a34 hp0.2)) dX6_leastTurnTowards_21 ?_
  refine lv_topi (fun x_5497 ex_5497 => ?_)
  have hG := hG.trans (lt_eq ex_5497)
  have rg_x_5497 := fb_rng x_5497
  have kx_5497 : (fS_worths p0.toNatClampNeg).toInt = x_5497.toInt := by rw [ex_5497]
  refine lv_iload_n hx hb dX6_leastTurnTowards_22 rfl (lv_at hl 2 rfl) ?_
  refine lv_iload_n hx hb dX6_leastTurnTowards_23 rfl (lv_at hl 3 rfl) ?_
  refine lv_imul hx hb dX6_leastTurnTowards_24 ?_
  refine lv_topi (fun x_5498 ex_5498 => ?_)
  have hG := hG.trans (lt_eq ex_5498)
  have rg_x_5498 := fb_rng x_5498
  refine lv_iadd hx hb dX6_leastTurnTowards_25 ?_
  refine lv_topi (fun x_5499 ex_5499 => ?_)
  have hG := hG.trans (lt_eq ex_5499)
  have rg_x_5499 := fb_rng x_5499
  have hFc := va_free (wc := [(oc4 oL rL_values rL_supposed), (arI rL_values kL_values 18 fL_values), (arI rL_supposed kL_supposed 18 fL_supposed), (oc1 oC iC_nodes iC_words iC_chances iC_unsures iC_slips iC_throneNode iC_saidWorth iC_unit rC_kind rC_parts rC_partNodes rC_weights rC_weightSums rC_toldWorths rC_steps rC_below rC_above rC_unsureWords rC_unsureWorths), (arI rC_kind kC_kind 18 fC_kind), (arI rC_parts kC_parts 18 fC_parts), (arI rC_partNodes kC_partNodes 72 fC_partNodes), (arI rC_weights kC_weights 72 fC_weights), (arI rC_weightSums kC_weightSums 18 fC_weightSums), (oc5 oS rS_worths rS_order rS_left), (arI rS_worths kS_worths 18 fS_worths)]) hD hS hA [9, 10, 11, 1, 2, 3, 4, 5, 6, 7, 8] rfl
  refine va_calli (va_runV (As := [.ref oC, .ref oS, .int p0, .int x_5499]) (rest := []) ⟨hx, hb, hml, hown, hts⟩ (tX4_throneByWord l dC dI _ oL rL_values fL_values kL_values rL_supposed fL_supposed kL_supposed oC iC_nodes iC_words iC_chances iC_unsures iC_slips iC_throneNode iC_saidWorth iC_unit rC_kind fC_kind kC_kind rC_parts fC_parts kC_parts rC_partNodes fC_partNodes kC_partNodes rC_weights fC_weights kC_weights rC_weightSums fC_weightSums kC_weightSums rC_toldWorths rC_steps rC_below rC_above rC_unsureWords rC_unsureWorths oS rS_worths fS_worths kS_worths rS_order rS_left p0 x_5499 b_iC_nodes b_iC_unsures b_iC_throneNode a_fC_parts a_fC_partNodes) (cwV 4 hts (wd_V wd_1130 wd_1131 wd_1132 wd_37 (wd_c wd_1133)) rfl rfl rfl dv_yX4_throneByWord_4 ⟨Nat.le_of_ble_eq_true rfl, Nat.le_of_ble_eq_true rfl⟩) ⟨Pw.fb, recvX4 hK hP (q0 := 9) rfl, fun U hU hW => Pw.to (hP.sub [9, 10, 11, 1, 2, 3, 4, 5, 6, 7, 8] rfl) (hD.sub [9, 10, 11, 1, 2, 3, 4, 5, 6, 7, 8] (by decide) rfl) (hK.sub [6, 7, 0, 1, 2, 3, 4, 5] rfl) hE hS hFc hU hW⟩ rfl rfl hl.1 rfl (lv_room (Nat.le_of_ble_eq_true rfl)) dX6_leastTurnTowards_26 ⟨Nat.le_of_ble_eq_true rfl, Nat.le_of_ble_eq_true rfl⟩) hS (fun q _ h => hFc q h) hFc (fun r u t H locs ht hvm hw hB hz1 hk1 hS => ?_)
  have hru9 := hw.2
  have hw := hw.1
  refine ex_2_1 hB (fun f_5500 f_5501 e_f_5500_0 hB => ?_)
  obtain ⟨hP, hD, hK⟩ := Bw.go (ws' := [(oc6 oK oR oC oS oT rK_images iK_imageCount oA oH oL iK_refusal iK_latestFault iK_latestPlace), (oc4 oL rL_values rL_supposed), (arI rL_values kL_values 18 f_5500), (arI rL_supposed kL_supposed 18 f_5501), (oc1 oC iC_nodes iC_words iC_chances iC_unsures iC_slips iC_throneNode iC_saidWorth iC_unit rC_kind rC_parts rC_partNodes rC_weights rC_weightSums rC_toldWorths rC_steps rC_below rC_above rC_unsureWords rC_unsureWorths), (arI rC_kind kC_kind 18 fC_kind), (arI rC_parts kC_parts 18 fC_parts), (arI rC_partNodes kC_partNodes 72 fC_partNodes), (arI rC_weights kC_weights 72 fC_weights), (arI rC_weightSums kC_weightSums 18 fC_weightSums), (oc5 oS rS_worths rS_order rS_left), (arI rS_worths kS_worths 18 fS_worths)]) (tys' := [(kL_values, .int), (kL_supposed, .int), (kC_kind, .int), (kC_parts, .int), (kC_partNodes, .int), (kC_weights, .int), (kC_weightSums, .int), (kS_worths, .int)]) hB rfl ht hvm hP hD hK [9, 10, 11, 1, 2, 3, 4, 5, 6, 7, 8] [0] rfl (by decide) (by decide) [] hk1 hFc rfl rfl rfl
  clear hz1 hk1 hvm ht hB
  rw [← hru9] at e_f_5500_0
  obtain ⟨x_5502, rfl⟩ : ∃ z, z = r := ⟨_, rfl⟩
  have hG := hG.trans (un3_eq e_f_5500_0)
  have rg_x_5502 := fb_rng x_5502
  refine lv_iload hx hb dX6_leastTurnTowards_29 (lv_at hl 4 rfl) ?_
  refine lv_icmp_ne (tgt := 37) hx hb dX6_leastTurnTowards_31 (by decide) (fun c_5503 => ?_) (fun c_5503 => ?_)
  · skip
    have hG := hG.trans (if_neg c_5503)
    have gc_5503 := ti_ne c_5503 rfl rfl
    refine lv_iconst (v := 1) hx hb dX6_leastTurnTowards_37 (by decide) ?_
    refine lv_istore (lv' := [(5, .int 1), (0, .ref oK), (1, .int p0), (2, .int p1), (3, .int p2), (4, .int p3)]) hx hb dX6_leastTurnTowards_38 hl (by decide) rfl (fun ls hl => ?_)
    refine lv_iload_n hx hb dX6_leastTurnTowards_40 rfl (lv_at hl 4 rfl) ?_
    refine lv_istore (lv' := [(6, .int p2), (5, .int 1), (0, .ref oK), (1, .int p0), (2, .int p1), (3, .int p2), (4, .int p3)]) hx hb dX6_leastTurnTowards_41 hl (by decide) rfl (fun ls hl => ?_)
    refine lv_iconst (v := 0) hx hb dX6_leastTurnTowards_43 (by decide) ?_
    refine lv_istore (lv' := [(7, .int 0), (6, .int p2), (5, .int 1), (0, .ref oK), (1, .int p0), (2, .int p1), (3, .int p2), (4, .int p3)]) hx hb dX6_leastTurnTowards_44 hl (by decide) rfl (fun ls hl => ?_)
    have hl := lv_sub hl (l' := [(7, .int 0), (6, .int p2), (5, .int 1), (0, .ref oK), (1, .int p0), (2, .int p1), (3, .int p2), (4, .int p3)]) [0, 1, 2, 3, 4, 5, 6, 7] rfl
    have key_n_5509 : ∀ (n_5509 : Nat) (z_5504 : Int32) (z_5505 : Int32) (z_5506 : Int32) (f_5507 : Nat → Int32) (f_5508 : Nat → Int32) (H : Heap) (locs : List Loc) (ls : Array Slot), (0 ≤ z_5504.toInt ∧ z_5504.toInt ≤ 2147483647) → (2147483647 - z_5504.toInt).toNat < n_5509 → (PX6_leastTurnTowards iC_nodes iC_throneNode iC_unit fC_kind fC_parts fC_partNodes fC_weights fC_weightSums fS_worths fL_values fL_supposed p0 p1 p2 p3 = HX6_leastTurnTowards_0 iC_nodes iC_throneNode iC_unit fC_kind fC_parts fC_partNodes fC_weights fC_weightSums fS_worths p0 p1 p3 n_5509 z_5504 z_5505 z_5506 f_5507 f_5508) → va_P (dC, dI) vwCl [(oc6 oK oR oC oS oT rK_images iK_imageCount oA oH oL iK_refusal iK_latestFault iK_latestPlace), (oc4 oL rL_values rL_supposed), (arI rL_values kL_values 18 f_5507), (arI rL_supposed kL_supposed 18 f_5508), (oc1 oC iC_nodes iC_words iC_chances iC_unsures iC_slips iC_throneNode iC_saidWorth iC_unit rC_kind rC_parts rC_partNodes rC_weights rC_weightSums rC_toldWorths rC_steps rC_below rC_above rC_unsureWords rC_unsureWorths), (arI rC_kind kC_kind 18 fC_kind), (arI rC_parts kC_parts 18 fC_parts), (arI rC_partNodes kC_partNodes 72 fC_partNodes), (arI rC_weights kC_weights 72 fC_weights), (arI rC_weightSums kC_weightSums 18 fC_weightSums), (oc5 oS rS_worths rS_order rS_left), (arI rS_worths kS_worths 18 fS_worths)] H → va_D A [(oc6 oK oR oC oS oT rK_images iK_imageCount oA oH oL iK_refusal iK_latestFault iK_latestPlace), (oc4 oL rL_values rL_supposed), (arI rL_values kL_values 18 f_5507), (arI rL_supposed kL_supposed 18 f_5508), (oc1 oC iC_nodes iC_words iC_chances iC_unsures iC_slips iC_throneNode iC_saidWorth iC_unit rC_kind rC_parts rC_partNodes rC_weights rC_weightSums rC_toldWorths rC_steps rC_below rC_above rC_unsureWords rC_unsureWorths), (arI rC_kind kC_kind 18 fC_kind), (arI rC_parts kC_parts 18 fC_parts), (arI rC_partNodes kC_partNodes 72 fC_partNodes), (arI rC_weights kC_weights 72 fC_weights), (arI rC_weightSums kC_weightSums 18 fC_weightSums), (oc5 oS rS_worths rS_order rS_left), (arI rS_worths kS_worths 18 fS_worths)] → va_S A s.heap H locs → lv_has ls 9 [(7, .int z_5504), (6, .int z_5505), (5, .int z_5506), (0, .ref oK), (1, .int p0), (2, .int p1), (3, .int p2), (4, .int p3)] → W p l e (headSpec (Cond.code yX6_leastTurnTowards cX6_leastTurnTowards 9 (some .int) :: wG) ({ frames := 4, cells := 0, slots := 0, locals := 95 })).room s m ([.ref oK, .int p0, .int p1, .int p2, .int p3] : List Value).toArray below meth c H locs 0 0 (MQ below (va_Qi (fun (r : Int32) (u : Nat) => (True ∧ True) ∧ r = Int32.ofNat u) (fun (u : Nat) (t : State) => ∃ (nfL_values : Nat → Int32) (nfL_supposed : Nat → Int32), (PX6_leastTurnTowards iC_nodes iC_throneNode iC_unit fC_kind fC_parts fC_partNodes fC_weights fC_weightSums fS_worths fL_values fL_supposed p0 p1 p2 p3 = (Int32.ofNat u, nfL_values, nfL_supposed)) ∧ Bw dC dI A [(oc6 oK oR oC oS oT rK_images iK_imageCount oA oH oL iK_refusal iK_latestFault iK_latestPlace), (oc1 oC iC_nodes iC_words iC_chances iC_unsures iC_slips iC_throneNode iC_saidWorth iC_unit rC_kind rC_parts rC_partNodes rC_weights rC_weightSums rC_toldWorths rC_steps rC_below rC_above rC_unsureWords rC_unsureWorths), (arI rC_kind kC_kind 18 fC_kind), (arI rC_parts kC_parts 18 fC_parts), (arI rC_partNodes kC_partNodes 72 fC_partNodes), (arI rC_weights kC_weights 72 fC_weights), (arI rC_weightSums kC_weightSums 18 fC_weightSums), (oc5 oS rS_worths rS_order rS_left), (arI rS_worths kS_worths 18 fS_worths), (oc4 oL rL_values rL_supposed), (arI rL_values kL_values 18 nfL_values), (arI rL_supposed kL_supposed 18 nfL_supposed)] [(kC_kind, .int), (kC_parts, .int), (kC_partNodes, .int), (kC_weights, .int), (kC_weightSums, .int), (kS_worths, .int), (kL_values, .int), (kL_supposed, .int)] t) A) ([.ref oK, .int p0, .int p1, .int p2, .int p3] : List Value).toArray s 0 0 A) (F0 m 46 ls []) := by
      intro n_5509
      induction n_5509 with
      | zero => intro z_5504 z_5505 z_5506 f_5507 f_5508 H locs ls hi0_n_5509 hm; exact absurd hm (Nat.not_lt_zero _)
      | succ n_5509 ih_n_5509 =>
        intro z_5504 z_5505 z_5506 f_5507 f_5508 H locs ls hi0_n_5509 hm_n_5509 hG hP hD hS hl
        have hG := hG.trans (HX6_leastTurnTowards_0_eq _ _ _ _ _ _ _ _ _ _ _ _ _ _ _ _ _ _)
        have rg_z_5504 := fb_rng z_5504
        have rg_z_5505 := fb_rng z_5505
        have rg_z_5506 := fb_rng z_5506
        refine lv_iload hx hb dX6_leastTurnTowards_46 (lv_at hl 0 rfl) ?_
        refine lv_bipush (v := 99) hx hb dX6_leastTurnTowards_48 (by decide) ?_
        refine lv_icmp_ge (tgt := 123) hx hb dX6_leastTurnTowards_50 (by decide) (fun c_5510 => ?_) (fun c_5510 => ?_)
        · skip
          have hG := hG.trans (if_pos c_5510)
          have gc_5510 := ti_le c_5510 kc_99 rfl
          refine lv_iload hx hb dX6_leastTurnTowards_123 (lv_at hl 1 rfl) ?_
          exact wq_i hx hb hr (cI z_5505) ⟨⟨trivial, trivial⟩, (cI_of z_5505)⟩ (fun t ht hW => ⟨f_5507, f_5508, (cI_tup hG), Bw.to (hP.sub [0, 4, 5, 6, 7, 8, 9, 10, 11, 1, 2, 3] rfl) (hD.sub [0, 4, 5, 6, 7, 8, 9, 10, 11, 1, 2, 3] (by decide) rfl) (hK.sub [2, 3, 4, 5, 6, 7, 0, 1] rfl) ht hW⟩) hS dX6_leastTurnTowards_125 hlocks
        · skip
          have hG := hG.trans (if_neg c_5510)
          have gc_5510 := ti_nle c_5510 kc_99 rfl
          refine lv_iload hx hb dX6_leastTurnTowards_53 (lv_at hl 2 rfl) ?_
          refine lv_iload hx hb dX6_leastTurnTowards_55 (lv_at hl 1 rfl) ?_
          refine lv_icmp_ge (tgt := 123) hx hb dX6_leastTurnTowards_57 (by decide) (fun c_5511 => ?_) (fun c_5511 => ?_)
          · skip
            have hG := hG.trans (if_pos c_5511)
            have gc_5511 := ti_le c_5511 rfl rfl
            refine lv_iload hx hb dX6_leastTurnTowards_123 (lv_at hl 1 rfl) ?_
            exact wq_i hx hb hr (cI z_5505) ⟨⟨trivial, trivial⟩, (cI_of z_5505)⟩ (fun t ht hW => ⟨f_5507, f_5508, (cI_tup hG), Bw.to (hP.sub [0, 4, 5, 6, 7, 8, 9, 10, 11, 1, 2, 3] rfl) (hD.sub [0, 4, 5, 6, 7, 8, 9, 10, 11, 1, 2, 3] (by decide) rfl) (hK.sub [2, 3, 4, 5, 6, 7, 0, 1] rfl) ht hW⟩) hS dX6_leastTurnTowards_125 hlocks
          · skip
            have hG := hG.trans (if_neg c_5511)
            have gc_5511 := ti_nle c_5511 rfl rfl
            refine lv_iload hx hb dX6_leastTurnTowards_60 (lv_at hl 2 rfl) ?_
            refine lv_iload hx hb dX6_leastTurnTowards_62 (lv_at hl 1 rfl) ?_
            refine lv_iadd hx hb dX6_leastTurnTowards_64 ?_
            refine lv_topi (fun x_5512 ex_5512 => ?_)
            have hG := hG.trans (lt_eq ex_5512)
            have rg_x_5512 := fb_rng x_5512
            refine lv_iconst (v := 2) hx hb dX6_leastTurnTowards_65 (by decide) ?_
            refine lv_idiv hx hb dX6_leastTurnTowards_66 (by decide) ?_
            refine lv_topi (fun x_5513 ex_5513 => ?_)
            have hG := hG.trans (lt_eq ex_5513)
            have rg_x_5513 := fb_rng x_5513
            refine lv_istore (lv' := [(8, .int x_5513), (7, .int z_5504), (6, .int z_5505), (5, .int z_5506), (0, .ref oK), (1, .int p0), (2, .int p1), (3, .int p2), (4, .int p3)]) hx hb dX6_leastTurnTowards_67 hl (by decide) rfl (fun ls hl => ?_)
            refine lv_aload_n hx hb dX6_leastTurnTowards_69 rfl (lv_at hl 4 rfl) ?_
            refine va_get (D := (dC, dI)) (ci := 6) (v := .ref oL) (C := RX6) (T := TX6) (N := 12) hx hb hts inX6 hown hK hP 0 rfl rfl 8 (by decide) (hts _ wd_38) (fun _ h9 => h9) rfl dX6_leastTurnTowards_70 ?_
            refine lv_aload_n hx hb dX6_leastTurnTowards_73 rfl (lv_at hl 4 rfl) ?_
            refine va_get (D := (dC, dI)) (ci := 6) (v := .ref oC) (C := RX6) (T := TX6) (N := 12) hx hb hts inX6 hown hK hP 0 rfl rfl 1 (by decide) (hts _ wd_20) (fun _ h9 => h9) rfl dX6_leastTurnTowards_74 ?_
            refine lv_aload_n hx hb dX6_leastTurnTowards_77 rfl (lv_at hl 4 rfl) ?_
            refine va_get (D := (dC, dI)) (ci := 6) (v := .ref oS) (C := RX6) (T := TX6) (N := 12) hx hb hts inX6 hown hK hP 0 rfl rfl 2 (by decide) (hts _ wd_24) (fun _ h9 => h9) rfl dX6_leastTurnTowards_78 ?_
            refine lv_iload_n hx hb dX6_leastTurnTowards_81 rfl (lv_at hl 5 rfl) ?_
            refine lv_aload_n hx hb dX6_leastTurnTowards_82 rfl (lv_at hl 4 rfl) ?_
            refine va_get (D := (dC, dI)) (ci := 6) (v := .ref oS) (C := RX6) (T := TX6) (N := 12) hx hb hts inX6 hown hK hP 0 rfl rfl 2 (by decide) (hts _ wd_24) (fun _ h9 => h9) rfl dX6_leastTurnTowards_83 ?_
            refine va_get (D := (dC, dI)) (ci := 5) (v := .ref rS_worths) (C := RX5) (T := TX5) (N := 3) hx hb hts inX5 hown hK hP 10 rfl rfl 0 (by decide) (hts _ wd_609) (fun _ h9 => h9) rfl dX6_leastTurnTowards_86 ?_
            refine lv_iload_n hx hb dX6_leastTurnTowards_89 rfl (lv_at hl 5 rfl) ?_
            refine va_iald hx hb hK hP 11 7 rfl rfl (ti_in rfl hp0.1 (om_b3735a34 hp0.2)) dX6_leastTurnTowards_90 ?_
            refine lv_topi (fun x_5514 ex_5514 => ?_)
            have hG := hG.trans (lt_eq ex_5514)
            have rg_x_5514 := fb_rng x_5514
            have kx_5514 : (fS_worths p0.toNatClampNeg).toInt = x_5514.toInt := by rw [ex_5514]
            refine lv_iload_n hx hb dX6_leastTurnTowards_91 rfl (lv_at hl 6 rfl) ?_
            refine lv_iload hx hb dX6_leastTurnTowards_92 (lv_at hl 0 rfl) ?_
            refine lv_imul hx hb dX6_leastTurnTowards_94 ?_
            refine lv_topi (fun x_5515 ex_5515 => ?_)
            have hG := hG.trans (lt_eq ex_5515)
            have rg_x_5515 := fb_rng x_5515
            refine lv_iadd hx hb dX6_leastTurnTowards_95 ?_
            refine lv_topi (fun x_5516 ex_5516 => ?_)
            have hG := hG.trans (lt_eq ex_5516)
            have rg_x_5516 := fb_rng x_5516
            have hMs := ml_of hD [false, true, true, true, true, true, true, true, true, true, true, true] (wc := [(oc4 oL rL_values rL_supposed), (arI rL_values kL_values 18 f_5507), (arI rL_supposed kL_supposed 18 f_5508), (oc1 oC iC_nodes iC_words iC_chances iC_unsures iC_slips iC_throneNode iC_saidWorth iC_unit rC_kind rC_parts rC_partNodes rC_weights rC_weightSums rC_toldWorths rC_steps rC_below rC_above rC_unsureWords rC_unsureWorths), (arI rC_kind kC_kind 18 fC_kind), (arI rC_parts kC_parts 18 fC_parts), (arI rC_partNodes kC_partNodes 72 fC_partNodes), (arI rC_weights kC_weights 72 fC_weights), (arI rC_weightSums kC_weightSums 18 fC_weightSums), (oc5 oS rS_worths rS_order rS_left), (arI rS_worths kS_worths 18 fS_worths)]) rfl
            have hFc := va_freeM hD hS hA _ hMs
            refine va_calli (va_runV (As := [.ref oC, .ref oS, .int p0, .int x_5516]) (rest := []) ⟨hx, hb, hml, hown, hts⟩ (tX4_throneByWord l dC dI _ oL rL_values f_5507 kL_values rL_supposed f_5508 kL_supposed oC iC_nodes iC_words iC_chances iC_unsures iC_slips iC_throneNode iC_saidWorth iC_unit rC_kind fC_kind kC_kind rC_parts fC_parts kC_parts rC_partNodes fC_partNodes kC_partNodes rC_weights fC_weights kC_weights rC_weightSums fC_weightSums kC_weightSums rC_toldWorths rC_steps rC_below rC_above rC_unsureWords rC_unsureWorths oS rS_worths fS_worths kS_worths rS_order rS_left p0 x_5516 b_iC_nodes b_iC_unsures b_iC_throneNode a_fC_parts a_fC_partNodes) (cwV 4 hts (wd_V wd_1130 wd_1131 wd_1132 wd_37 (wd_c wd_1133)) rfl rfl rfl dv_yX4_throneByWord_4 ⟨Nat.le_of_ble_eq_true rfl, Nat.le_of_ble_eq_true rfl⟩) ⟨Pw.fb, recvX4 hK hP (q0 := 1) rfl, fun U hU hW => Pw.to (hP.ms _ hMs) (hD.ms _ hMs) hK hE hS hFc hU hW⟩ rfl rfl hl.1 rfl (lv_room (Nat.le_of_ble_eq_true rfl)) dX6_leastTurnTowards_96 ⟨Nat.le_of_ble_eq_true rfl, Nat.le_of_ble_eq_true rfl⟩) hS (fun q _ h => hFc q h) hFc (fun r u t H locs ht hvm hw hB hz1 hk1 hS => ?_)
            have hru9 := hw.2
            have hw := hw.1
            refine ex_2_1 hB (fun f_5517 f_5518 e_f_5517_0 hB => ?_)
            obtain ⟨hP, hD⟩ := Bw.goN (ws' := [(oc6 oK oR oC oS oT rK_images iK_imageCount oA oH oL iK_refusal iK_latestFault iK_latestPlace), (oc4 oL rL_values rL_supposed), (arI rL_values kL_values 18 f_5517), (arI rL_supposed kL_supposed 18 f_5518), (oc1 oC iC_nodes iC_words iC_chances iC_unsures iC_slips iC_throneNode iC_saidWorth iC_unit rC_kind rC_parts rC_partNodes rC_weights rC_weightSums rC_toldWorths rC_steps rC_below rC_above rC_unsureWords rC_unsureWorths), (arI rC_kind kC_kind 18 fC_kind), (arI rC_parts kC_parts 18 fC_parts), (arI rC_partNodes kC_partNodes 72 fC_partNodes), (arI rC_weights kC_weights 72 fC_weights), (arI rC_weightSums kC_weightSums 18 fC_weightSums), (oc5 oS rS_worths rS_order rS_left), (arI rS_worths kS_worths 18 fS_worths)]) hB rfl ht hP hD _ hMs hk1 hFc rfl
            clear hz1 hk1 hvm ht hB hMs
            rw [← hru9] at e_f_5517_0
            obtain ⟨x_5519, rfl⟩ : ∃ z, z = r := ⟨_, rfl⟩
            have hG := hG.trans (un3_eq e_f_5517_0)
            have rg_x_5519 := fb_rng x_5519
            refine lv_iload hx hb dX6_leastTurnTowards_99 (lv_at hl 8 rfl) ?_
            refine lv_icmp_ne (tgt := 113) hx hb dX6_leastTurnTowards_101 (by decide) (fun c_5520 => ?_) (fun c_5520 => ?_)
            · skip
              have hG := hG.trans (if_neg c_5520)
              have gc_5520 := ti_ne c_5520 rfl rfl
              refine lv_iload hx hb dX6_leastTurnTowards_113 (lv_at hl 0 rfl) ?_
              refine lv_istore (lv' := [(6, .int x_5513), (8, .int x_5513), (7, .int z_5504), (5, .int z_5506), (0, .ref oK), (1, .int p0), (2, .int p1), (3, .int p2), (4, .int p3)]) hx hb dX6_leastTurnTowards_115 hl (by decide) rfl (fun ls hl => ?_)
              obtain ⟨x_5521, ex_5521⟩ : ∃ z : Int32, z = z_5504 + Int32.ofInt 1 := ⟨_, rfl⟩
              have hG := hG.trans (lt_eq ex_5521)
              have vx_5521 : x_5521.toInt = z_5504.toInt + 1 := ti_add (y := 1) ex_5521 rfl kc_1 (om_4e4fce7e hi0_n_5509.1) (om_9293eb5d gc_5510)
              refine lv_iinc (v := x_5521) (lv' := [(7, .int x_5521), (6, .int x_5513), (8, .int x_5513), (5, .int z_5506), (0, .ref oK), (1, .int p0), (2, .int p1), (3, .int p2), (4, .int p3)]) hx hb dX6_leastTurnTowards_117 hl (k := 2) rfl ex_5521.symm (by decide) rfl (fun ls hl => ?_)
              refine lv_goto (tgt := 46) hx hb dX6_leastTurnTowards_120 (by decide) ?_
              exact ih_n_5509 x_5521 x_5513 z_5506 f_5517 f_5518 _ _ _  ⟨(om_83b90de5 hi0_n_5509.1 vx_5521), (om_f63ec340 gc_5510 vx_5521)⟩ (ms_lt hm_n_5509 (om_b9393183 vx_5521) (om_cd120fc8 gc_5510)) hG hP hD hS (lv_sub hl [0, 1, 3, 4, 5, 6, 7, 8] rfl)
            · skip
              have hG := hG.trans (if_pos c_5520)
              have gc_5520 := ti_eq c_5520 rfl rfl
              refine lv_iload hx hb dX6_leastTurnTowards_104 (lv_at hl 0 rfl) ?_
              refine lv_iconst (v := 1) hx hb dX6_leastTurnTowards_106 (by decide) ?_
              refine lv_iadd hx hb dX6_leastTurnTowards_107 ?_
              refine lv_topi (fun x_5522 ex_5522 => ?_)
              have hG := hG.trans (lt_eq ex_5522)
              have rg_x_5522 := fb_rng x_5522
              refine lv_istore (lv' := [(5, .int x_5522), (8, .int x_5513), (7, .int z_5504), (6, .int z_5505), (0, .ref oK), (1, .int p0), (2, .int p1), (3, .int p2), (4, .int p3)]) hx hb dX6_leastTurnTowards_108 hl (by decide) rfl (fun ls hl => ?_)
              refine lv_goto (tgt := 117) hx hb dX6_leastTurnTowards_110 (by decide) ?_
              obtain ⟨x_5523, ex_5523⟩ : ∃ z : Int32, z = z_5504 + Int32.ofInt 1 := ⟨_, rfl⟩
              have hG := hG.trans (lt_eq ex_5523)
              have vx_5523 : x_5523.toInt = z_5504.toInt + 1 := ti_add (y := 1) ex_5523 rfl kc_1 (om_4e4fce7e hi0_n_5509.1) (om_9293eb5d gc_5510)
              refine lv_iinc (v := x_5523) (lv' := [(7, .int x_5523), (5, .int x_5522), (8, .int x_5513), (6, .int z_5505), (0, .ref oK), (1, .int p0), (2, .int p1), (3, .int p2), (4, .int p3)]) hx hb dX6_leastTurnTowards_117 hl (k := 2) rfl ex_5523.symm (by decide) rfl (fun ls hl => ?_)
              refine lv_goto (tgt := 46) hx hb dX6_leastTurnTowards_120 (by decide) ?_
              exact ih_n_5509 x_5523 z_5505 x_5522 f_5517 f_5518 _ _ _  ⟨(om_83b90de5 hi0_n_5509.1 vx_5523), (om_f63ec340 gc_5510 vx_5523)⟩ (ms_lt hm_n_5509 (om_b9393183 vx_5523) (om_cd120fc8 gc_5510)) hG hP hD hS (lv_sub hl [0, 3, 1, 4, 5, 6, 7, 8] rfl)
    exact key_n_5509 (((2147483647 - (0 : Int32).toInt).toNat) + 1) 0 p2 1 f_5500 f_5501 _ _ _  ⟨(om_b1de7dbe kc_0), (om_daf17c64 kc_0)⟩ (Nat.lt_add_one _) hG hP hD hS hl
  · skip
    have hG := hG.trans (if_pos c_5503)
    have gc_5503 := ti_eq c_5503 rfl rfl
    refine lv_bipush (v := (-2)) hx hb dX6_leastTurnTowards_34 (by decide) ?_
    exact wq_i hx hb hr (cI (-2)) ⟨⟨trivial, trivial⟩, (cI_of (-2))⟩ (fun t ht hW => ⟨f_5500, f_5501, (cI_tup hG), Bw.to (hP.sub [0, 4, 5, 6, 7, 8, 9, 10, 11, 1, 2, 3] rfl) (hD.sub [0, 4, 5, 6, 7, 8, 9, 10, 11, 1, 2, 3] (by decide) rfl) (hK.sub [2, 3, 4, 5, 6, 7, 0, 1] rfl) ht hW⟩) hS dX6_leastTurnTowards_36 hlocks
set_option maxHeartbeats 4000000 in
set_option maxRecDepth 100000 in
theorem tX6_leastTurn (l : Launch) (dC : Nat → ClassId) (dI : Nat → Nat → Nat) (sz : Nat) (oK : Nat) (oR : Nat) (oC : Nat) (oS : Nat) (oT : Nat) (rK_images : Nat) (iK_imageCount : Int32) (oA : Nat) (oH : Nat) (oL : Nat) (iK_refusal : Int32) (iK_latestFault : Int32) (iK_latestPlace : Int32) (iC_nodes : Int32) (iC_words : Int32) (iC_chances : Int32) (iC_unsures : Int32) (iC_slips : Int32) (iC_throneNode : Int32) (iC_saidWorth : Int32) (iC_unit : Int32) (rC_kind : Nat) (fC_kind : Nat → Int32) (kC_kind : ClassId) (rC_parts : Nat) (fC_parts : Nat → Int32) (kC_parts : ClassId) (rC_partNodes : Nat) (fC_partNodes : Nat → Int32) (kC_partNodes : ClassId) (rC_weights : Nat) (fC_weights : Nat → Int32) (kC_weights : ClassId) (rC_weightSums : Nat) (fC_weightSums : Nat → Int32) (kC_weightSums : ClassId) (rC_toldWorths : Nat) (rC_steps : Nat) (rC_below : Nat) (rC_above : Nat) (rC_unsureWords : Nat) (rC_unsureWorths : Nat) (rS_worths : Nat) (fS_worths : Nat → Int32) (kS_worths : ClassId) (rS_order : Nat) (rS_left : Nat) (rL_values : Nat) (fL_values : Nat → Int32) (kL_values : ClassId) (rL_supposed : Nat) (fL_supposed : Nat → Int32) (kL_supposed : ClassId) (p0 : Int32) (b_iK_imageCount : 0 ≤ iK_imageCount.toInt ∧ iK_imageCount.toInt ≤ 3) (b_iC_nodes : 0 ≤ iC_nodes.toInt ∧ iC_nodes.toInt ≤ 18) (b_iC_unsures : 0 ≤ iC_unsures.toInt ∧ iC_unsures.toInt ≤ 4) (b_iC_throneNode : (-1) ≤ iC_throneNode.toInt ∧ iC_throneNode.toInt ≤ 17) (a_fC_parts : ∀ j : Nat, j < 18 → 0 ≤ (fC_parts j).toInt ∧ (fC_parts j).toInt ≤ 4) (a_fC_partNodes : ∀ j : Nat, j < 72 → 0 ≤ (fC_partNodes j).toInt ∧ (fC_partNodes j).toInt ≤ 17) (hp0 : 0 ≤ p0.toInt ∧ p0.toInt ≤ 17) : Met l yX6_leastTurn (Cond.code yX6_leastTurn cX6_leastTurn 5 (some .int) :: wG) ({ frames := 5, cells := 0, slots := 0, locals := 123 }) (va_Pc [.ref oK, .int p0] (Pw dC dI sz [(oc6 oK oR oC oS oT rK_images iK_imageCount oA oH oL iK_refusal iK_latestFault iK_latestPlace), (oc1 oC iC_nodes iC_words iC_chances iC_unsures iC_slips iC_throneNode iC_saidWorth iC_unit rC_kind rC_parts rC_partNodes rC_weights rC_weightSums rC_toldWorths rC_steps rC_below rC_above rC_unsureWords rC_unsureWorths), (arI rC_kind kC_kind 18 fC_kind), (arI rC_parts kC_parts 18 fC_parts), (arI rC_partNodes kC_partNodes 72 fC_partNodes), (arI rC_weights kC_weights 72 fC_weights), (arI rC_weightSums kC_weightSums 18 fC_weightSums), (oc5 oS rS_worths rS_order rS_left), (arI rS_worths kS_worths 18 fS_worths), (oc4 oL rL_values rL_supposed), (arI rL_values kL_values 18 fL_values), (arI rL_supposed kL_supposed 18 fL_supposed)] [(kC_kind, .int), (kC_parts, .int), (kC_partNodes, .int), (kC_weights, .int), (kC_weightSums, .int), (kS_worths, .int), (kL_values, .int), (kL_supposed, .int)])) (va_Qi (fun (r : Int32) (u : Nat) => (True ∧ True) ∧ r = Int32.ofNat u) (fun (u : Nat) (t : State) => ∃ (nfL_values : Nat → Int32) (nfL_supposed : Nat → Int32), (PX6_leastTurn iC_nodes iC_throneNode iC_unit fC_kind fC_parts fC_partNodes fC_weights fC_weightSums fS_worths fL_values fL_supposed p0 = (Int32.ofNat u, nfL_values, nfL_supposed)) ∧ Bw dC dI (va_A [(oc6 oK oR oC oS oT rK_images iK_imageCount oA oH oL iK_refusal iK_latestFault iK_latestPlace), (oc1 oC iC_nodes iC_words iC_chances iC_unsures iC_slips iC_throneNode iC_saidWorth iC_unit rC_kind rC_parts rC_partNodes rC_weights rC_weightSums rC_toldWorths rC_steps rC_below rC_above rC_unsureWords rC_unsureWorths), (arI rC_kind kC_kind 18 fC_kind), (arI rC_parts kC_parts 18 fC_parts), (arI rC_partNodes kC_partNodes 72 fC_partNodes), (arI rC_weights kC_weights 72 fC_weights), (arI rC_weightSums kC_weightSums 18 fC_weightSums), (oc5 oS rS_worths rS_order rS_left), (arI rS_worths kS_worths 18 fS_worths), (oc4 oL rL_values rL_supposed), (arI rL_values kL_values 18 fL_values), (arI rL_supposed kL_supposed 18 fL_supposed)] sz) [(oc6 oK oR oC oS oT rK_images iK_imageCount oA oH oL iK_refusal iK_latestFault iK_latestPlace), (oc1 oC iC_nodes iC_words iC_chances iC_unsures iC_slips iC_throneNode iC_saidWorth iC_unit rC_kind rC_parts rC_partNodes rC_weights rC_weightSums rC_toldWorths rC_steps rC_below rC_above rC_unsureWords rC_unsureWorths), (arI rC_kind kC_kind 18 fC_kind), (arI rC_parts kC_parts 18 fC_parts), (arI rC_partNodes kC_partNodes 72 fC_partNodes), (arI rC_weights kC_weights 72 fC_weights), (arI rC_weightSums kC_weightSums 18 fC_weightSums), (oc5 oS rS_worths rS_order rS_left), (arI rS_worths kS_worths 18 fS_worths), (oc4 oL rL_values rL_supposed), (arI rL_values kL_values 18 nfL_values), (arI rL_supposed kL_supposed 18 nfL_supposed)] [(kC_kind, .int), (kC_parts, .int), (kC_partNodes, .int), (kC_weights, .int), (kC_weightSums, .int), (kS_worths, .int), (kL_values, .int), (kL_supposed, .int)] t) (va_A [(oc6 oK oR oC oS oT rK_images iK_imageCount oA oH oL iK_refusal iK_latestFault iK_latestPlace), (oc1 oC iC_nodes iC_words iC_chances iC_unsures iC_slips iC_throneNode iC_saidWorth iC_unit rC_kind rC_parts rC_partNodes rC_weights rC_weightSums rC_toldWorths rC_steps rC_below rC_above rC_unsureWords rC_unsureWorths), (arI rC_kind kC_kind 18 fC_kind), (arI rC_parts kC_parts 18 fC_parts), (arI rC_partNodes kC_partNodes 72 fC_partNodes), (arI rC_weights kC_weights 72 fC_weights), (arI rC_weightSums kC_weightSums 18 fC_weightSums), (oc5 oS rS_worths rS_order rS_left), (arI rS_worths kS_worths 18 fS_worths), (oc4 oL rL_values rL_supposed), (arI rL_values kL_values 18 fL_values), (arI rL_supposed kL_supposed 18 fL_supposed)] sz)) 0 0 (va_A [(oc6 oK oR oC oS oT rK_images iK_imageCount oA oH oL iK_refusal iK_latestFault iK_latestPlace), (oc1 oC iC_nodes iC_words iC_chances iC_unsures iC_slips iC_throneNode iC_saidWorth iC_unit rC_kind rC_parts rC_partNodes rC_weights rC_weightSums rC_toldWorths rC_steps rC_below rC_above rC_unsureWords rC_unsureWorths), (arI rC_kind kC_kind 18 fC_kind), (arI rC_parts kC_parts 18 fC_parts), (arI rC_partNodes kC_partNodes 72 fC_partNodes), (arI rC_weights kC_weights 72 fC_weights), (arI rC_weightSums kC_weightSums 18 fC_weightSums), (oc5 oS rS_worths rS_order rS_left), (arI rS_worths kS_worths 18 fS_worths), (oc4 oL rL_values rL_supposed), (arI rL_values kL_values 18 fL_values), (arI rL_supposed kL_supposed 18 fL_supposed)] sz) := by
  refine Met.ofW (cc := cX6_leastTurn) (maxL := 5) (ret := (some .int)) pnX6 rfl ?_
  intro p e s m args below meth c s₁ B hml hv
  obtain ⟨rfl, hsz, hP, hK, hD0, hE⟩ := hv
  have hx := B.exec
  have hb := B.bytes
  have hr := B.returns
  have hts : ∀ w ∈ wG, w.before ([.ref oK, .int p0] : List Value).toArray s = true := fun w h => atoms_spec (ws := Cond.code yX6_leastTurn cX6_leastTurn 5 (some .int) :: wG) B.pre w (List.mem_cons_of_mem _ h)
  have hown : s.vm.findClass RX6 = some m.cls := own_of B.named rfl
  have hlocks := B.notSynchronized
  subst hsz
  have hD := hD0.self (sz := s.heap.size)
  generalize hAe : va_A [(oc6 oK oR oC oS oT rK_images iK_imageCount oA oH oL iK_refusal iK_latestFault iK_latestPlace), (oc1 oC iC_nodes iC_words iC_chances iC_unsures iC_slips iC_throneNode iC_saidWorth iC_unit rC_kind rC_parts rC_partNodes rC_weights rC_weightSums rC_toldWorths rC_steps rC_below rC_above rC_unsureWords rC_unsureWorths), (arI rC_kind kC_kind 18 fC_kind), (arI rC_parts kC_parts 18 fC_parts), (arI rC_partNodes kC_partNodes 72 fC_partNodes), (arI rC_weights kC_weights 72 fC_weights), (arI rC_weightSums kC_weightSums 18 fC_weightSums), (oc5 oS rS_worths rS_order rS_left), (arI rS_worths kS_worths 18 fS_worths), (oc4 oL rL_values rL_supposed), (arI rL_values kL_values 18 fL_values), (arI rL_supposed kL_supposed 18 fL_supposed)] s.heap.size = A at hD hE ⊢
  have hA : ∀ q : Nat, s.heap.size ≤ q → A q := fun q h => by rw [← hAe]; exact Or.inr h
  have hS : va_S A s.heap s.heap [] := va_S.rf
  have hl := lv_entry ([.ref oK, .int p0]) (n := 5) (Nat.le_of_ble_eq_true rfl)
  rw [lg_entry_eq]
  generalize (lg_sl ([.ref oK, .int p0]) ++ List.replicate (5 - (lg_sl ([.ref oK, .int p0])).length) Slot.unset).toArray = ls at hl ⊢
  have hl : lv_has ls 5 [(0, .ref oK), (1, .int p0)] := hl
  have hG := PX6_leastTurn_eq iC_nodes iC_throneNode iC_unit fC_kind fC_parts fC_partNodes fC_weights fC_weightSums fS_worths fL_values fL_supposed p0
  refine lv_aload_n hx hb dX6_leastTurn_0 rfl (lv_at hl 0 rfl) ?_
  refine va_get (D := (dC, dI)) (ci := 6) (v := .ref oL) (C := RX6) (T := TX6) (N := 12) hx hb hts inX6 hown hK hP 0 rfl rfl 8 (by decide) (hts _ wd_38) (fun _ h9 => h9) rfl dX6_leastTurn_1 ?_
  refine lv_aload_n hx hb dX6_leastTurn_4 rfl (lv_at hl 0 rfl) ?_
  refine va_get (D := (dC, dI)) (ci := 6) (v := .ref oC) (C := RX6) (T := TX6) (N := 12) hx hb hts inX6 hown hK hP 0 rfl rfl 1 (by decide) (hts _ wd_20) (fun _ h9 => h9) rfl dX6_leastTurn_5 ?_
  refine lv_aload_n hx hb dX6_leastTurn_8 rfl (lv_at hl 0 rfl) ?_
  refine va_get (D := (dC, dI)) (ci := 6) (v := .ref oS) (C := RX6) (T := TX6) (N := 12) hx hb hts inX6 hown hK hP 0 rfl rfl 2 (by decide) (hts _ wd_24) (fun _ h9 => h9) rfl dX6_leastTurn_9 ?_
  refine va_get (D := (dC, dI)) (ci := 5) (v := .ref rS_worths) (C := RX5) (T := TX5) (N := 3) hx hb hts inX5 hown hK hP 7 rfl rfl 0 (by decide) (hts _ wd_609) (fun _ h9 => h9) rfl dX6_leastTurn_12 ?_
  have hFc := va_free (wc := [(oc4 oL rL_values rL_supposed), (arI rL_values kL_values 18 fL_values), (oc1 oC iC_nodes iC_words iC_chances iC_unsures iC_slips iC_throneNode iC_saidWorth iC_unit rC_kind rC_parts rC_partNodes rC_weights rC_weightSums rC_toldWorths rC_steps rC_below rC_above rC_unsureWords rC_unsureWorths), (arI rC_kind kC_kind 18 fC_kind), (arI rC_parts kC_parts 18 fC_parts), (arI rC_partNodes kC_partNodes 72 fC_partNodes), (arI rC_weights kC_weights 72 fC_weights), (arI rC_weightSums kC_weightSums 18 fC_weightSums), (arI rS_worths kS_worths 18 fS_worths)]) hD hS hA [9, 10, 1, 2, 3, 4, 5, 6, 8] rfl
  refine va_calli (va_runV (As := [.ref oC, .ref rS_worths]) (rest := []) ⟨hx, hb, hml, hown, hts⟩ (tX4_weighAll l dC dI _ oL rL_values fL_values kL_values rL_supposed oC iC_nodes iC_words iC_chances iC_unsures iC_slips iC_throneNode iC_saidWorth iC_unit rC_kind fC_kind kC_kind rC_parts fC_parts kC_parts rC_partNodes fC_partNodes kC_partNodes rC_weights fC_weights kC_weights rC_weightSums fC_weightSums kC_weightSums rC_toldWorths rC_steps rC_below rC_above rC_unsureWords rC_unsureWorths rS_worths fS_worths kS_worths b_iC_nodes b_iC_unsures b_iC_throneNode a_fC_parts a_fC_partNodes) (cwV 2 hts (wd_V wd_612 wd_613 wd_614 wd_37 (wd_c wd_615)) rfl rfl rfl dv_yX4_weighAll_2 ⟨Nat.le_of_ble_eq_true rfl, Nat.le_of_ble_eq_true rfl⟩) ⟨Pw.fb, recvX4 hK hP (q0 := 9) rfl, fun U hU hW => Pw.to (hP.sub [9, 10, 1, 2, 3, 4, 5, 6, 8] rfl) (hD.sub [9, 10, 1, 2, 3, 4, 5, 6, 8] (by decide) rfl) (hK.sub [6, 0, 1, 2, 3, 4, 5] rfl) hE hS hFc hU hW⟩ rfl rfl hl.1 rfl (lv_room (Nat.le_of_ble_eq_true rfl)) dX6_leastTurn_15 ⟨Nat.le_of_ble_eq_true rfl, Nat.le_of_ble_eq_true rfl⟩) hS (fun q _ h => hFc q h) hFc (fun r u t H locs ht hvm hw hB hz1 hk1 hS => ?_)
  have hru9 := hw.2
  have hw := hw.1
  refine ex_1_1 hB (fun f_5540 e_f_5540_0 hB => ?_)
  obtain ⟨hP, hD, hK⟩ := Bw.go (ws' := [(oc6 oK oR oC oS oT rK_images iK_imageCount oA oH oL iK_refusal iK_latestFault iK_latestPlace), (oc5 oS rS_worths rS_order rS_left), (arI rL_supposed kL_supposed 18 fL_supposed), (oc4 oL rL_values rL_supposed), (arI rL_values kL_values 18 f_5540), (oc1 oC iC_nodes iC_words iC_chances iC_unsures iC_slips iC_throneNode iC_saidWorth iC_unit rC_kind rC_parts rC_partNodes rC_weights rC_weightSums rC_toldWorths rC_steps rC_below rC_above rC_unsureWords rC_unsureWorths), (arI rC_kind kC_kind 18 fC_kind), (arI rC_parts kC_parts 18 fC_parts), (arI rC_partNodes kC_partNodes 72 fC_partNodes), (arI rC_weights kC_weights 72 fC_weights), (arI rC_weightSums kC_weightSums 18 fC_weightSums), (arI rS_worths kS_worths 18 fS_worths)]) (tys' := [(kL_supposed, .int), (kL_values, .int), (kC_kind, .int), (kC_parts, .int), (kC_partNodes, .int), (kC_weights, .int), (kC_weightSums, .int), (kS_worths, .int)]) hB rfl ht hvm hP hD hK [9, 10, 1, 2, 3, 4, 5, 6, 8] [0, 7, 11] rfl (by decide) (by decide) [7] hk1 hFc rfl rfl rfl
  clear hz1 hk1 hvm ht hB
  rw [← hru9] at e_f_5540_0
  obtain ⟨x_5541, rfl⟩ : ∃ z, z = r := ⟨_, rfl⟩
  have hG := hG.trans (un2_eq e_f_5540_0)
  refine lv_istore_n (lv' := [(2, .int x_5541), (0, .ref oK), (1, .int p0)]) hx hb dX6_leastTurn_18 rfl hl (by decide) rfl (fun ls hl => ?_)
  refine lv_aload_n hx hb dX6_leastTurn_19 rfl (lv_at hl 1 rfl) ?_
  refine lv_iload_n hx hb dX6_leastTurn_20 rfl (lv_at hl 2 rfl) ?_
  refine lv_iconst (v := 1) hx hb dX6_leastTurn_21 (by decide) ?_
  refine lv_bipush (v := 99) hx hb dX6_leastTurn_22 (by decide) ?_
  refine lv_aload_n hx hb dX6_leastTurn_24 rfl (lv_at hl 1 rfl) ?_
  refine va_get (D := (dC, dI)) (ci := 6) (v := .ref oS) (C := RX6) (T := TX6) (N := 12) hx hb hts inX6 hown hK hP 0 rfl rfl 2 (by decide) (hts _ wd_24) (fun _ h9 => h9) rfl dX6_leastTurn_25 ?_
  refine va_get (D := (dC, dI)) (ci := 5) (v := .ref rS_worths) (C := RX5) (T := TX5) (N := 3) hx hb hts inX5 hown hK hP 1 rfl rfl 0 (by decide) (hts _ wd_609) (fun _ h9 => h9) rfl dX6_leastTurn_28 ?_
  refine lv_iload_n hx hb dX6_leastTurn_31 rfl (lv_at hl 2 rfl) ?_
  refine va_iald hx hb hK hP 11 7 rfl rfl (ti_in rfl hp0.1 (om_b3735a34 hp0.2)) dX6_leastTurn_32 ?_
  refine lv_topi (fun x_5542 ex_5542 => ?_)
  have hG := hG.trans (lt_eq ex_5542)
  have kx_5542 : (fS_worths p0.toNatClampNeg).toInt = x_5542.toInt := by rw [ex_5542]
  refine lv_isub hx hb dX6_leastTurn_33 ?_
  refine lv_topi (fun x_5543 ex_5543 => ?_)
  have hG := hG.trans (lt_eq ex_5543)
  refine lv_iload_n hx hb dX6_leastTurn_34 rfl (lv_at hl 0 rfl) ?_
  have hFc := va_free (wc := [(oc6 oK oR oC oS oT rK_images iK_imageCount oA oH oL iK_refusal iK_latestFault iK_latestPlace), (oc1 oC iC_nodes iC_words iC_chances iC_unsures iC_slips iC_throneNode iC_saidWorth iC_unit rC_kind rC_parts rC_partNodes rC_weights rC_weightSums rC_toldWorths rC_steps rC_below rC_above rC_unsureWords rC_unsureWorths), (arI rC_kind kC_kind 18 fC_kind), (arI rC_parts kC_parts 18 fC_parts), (arI rC_partNodes kC_partNodes 72 fC_partNodes), (arI rC_weights kC_weights 72 fC_weights), (arI rC_weightSums kC_weightSums 18 fC_weightSums), (oc5 oS rS_worths rS_order rS_left), (arI rS_worths kS_worths 18 fS_worths), (oc4 oL rL_values rL_supposed), (arI rL_values kL_values 18 f_5540), (arI rL_supposed kL_supposed 18 fL_supposed)]) hD hS hA [0, 5, 6, 7, 8, 9, 10, 1, 11, 3, 4, 2] rfl
  refine va_calli (va_runV (As := [.int p0, .int 1, .int x_5543, .int x_5541]) (rest := []) ⟨hx, hb, hml, hown, hts⟩ (tX6_leastTurnTowards l dC dI _ oK oR oC oS oT rK_images iK_imageCount oA oH oL iK_refusal iK_latestFault iK_latestPlace iC_nodes iC_words iC_chances iC_unsures iC_slips iC_throneNode iC_saidWorth iC_unit rC_kind fC_kind kC_kind rC_parts fC_parts kC_parts rC_partNodes fC_partNodes kC_partNodes rC_weights fC_weights kC_weights rC_weightSums fC_weightSums kC_weightSums rC_toldWorths rC_steps rC_below rC_above rC_unsureWords rC_unsureWorths rS_worths fS_worths kS_worths rS_order rS_left rL_values f_5540 kL_values rL_supposed fL_supposed kL_supposed p0 1 x_5543 x_5541 b_iK_imageCount b_iC_nodes b_iC_unsures b_iC_throneNode a_fC_parts a_fC_partNodes ⟨hp0.1, hp0.2⟩) (cwV 4 hts (wd_V wd_1126 wd_1127 wd_1128 wd_2 (wd_c wd_1129)) rfl rfl rfl dv_yX6_leastTurnTowards_4 ⟨Nat.le_of_ble_eq_true rfl, Nat.le_of_ble_eq_true rfl⟩) ⟨Pw.fb, recvX6 hK hP (q0 := 0) rfl, fun U hU hW => Pw.to (hP.sub [0, 5, 6, 7, 8, 9, 10, 1, 11, 3, 4, 2] rfl) (hD.sub [0, 5, 6, 7, 8, 9, 10, 1, 11, 3, 4, 2] (by decide) rfl) (hK.sub [2, 3, 4, 5, 6, 7, 1, 0] rfl) hE hS hFc hU hW⟩ rfl rfl hl.1 rfl (lv_room (Nat.le_of_ble_eq_true rfl)) dX6_leastTurn_35 ⟨Nat.le_of_ble_eq_true rfl, Nat.le_of_ble_eq_true rfl⟩) hS (fun q _ h => hFc q h) hFc (fun r u t H locs ht hvm hw hB hz1 hk1 hS => ?_)
  have hru9 := hw.2
  have hw := hw.1
  refine ex_2_1 hB (fun f_5544 f_5545 e_f_5544_0 hB => ?_)
  obtain ⟨hP, hD, hK⟩ := Bw.go (ws' := [(oc6 oK oR oC oS oT rK_images iK_imageCount oA oH oL iK_refusal iK_latestFault iK_latestPlace), (oc1 oC iC_nodes iC_words iC_chances iC_unsures iC_slips iC_throneNode iC_saidWorth iC_unit rC_kind rC_parts rC_partNodes rC_weights rC_weightSums rC_toldWorths rC_steps rC_below rC_above rC_unsureWords rC_unsureWorths), (arI rC_kind kC_kind 18 fC_kind), (arI rC_parts kC_parts 18 fC_parts), (arI rC_partNodes kC_partNodes 72 fC_partNodes), (arI rC_weights kC_weights 72 fC_weights), (arI rC_weightSums kC_weightSums 18 fC_weightSums), (oc5 oS rS_worths rS_order rS_left), (arI rS_worths kS_worths 18 fS_worths), (oc4 oL rL_values rL_supposed), (arI rL_values kL_values 18 f_5544), (arI rL_supposed kL_supposed 18 f_5545)]) (tys' := [(kC_kind, .int), (kC_parts, .int), (kC_partNodes, .int), (kC_weights, .int), (kC_weightSums, .int), (kS_worths, .int), (kL_values, .int), (kL_supposed, .int)]) hB rfl ht hvm hP hD hK [0, 5, 6, 7, 8, 9, 10, 1, 11, 3, 4, 2] [] rfl (by decide) (by decide) [] hk1 hFc rfl rfl rfl
  clear hz1 hk1 hvm ht hB
  rw [← hru9] at e_f_5544_0
  obtain ⟨x_5546, rfl⟩ : ∃ z, z = r := ⟨_, rfl⟩
  have hG := hG.trans (un3_eq e_f_5544_0)
  refine lv_istore_n (lv' := [(3, .int x_5546), (2, .int x_5541), (0, .ref oK), (1, .int p0)]) hx hb dX6_leastTurn_38 rfl hl (by decide) rfl (fun ls hl => ?_)
  refine lv_aload_n hx hb dX6_leastTurn_39 rfl (lv_at hl 2 rfl) ?_
  refine lv_iload_n hx hb dX6_leastTurn_40 rfl (lv_at hl 3 rfl) ?_
  refine lv_iconst (v := (-1)) hx hb dX6_leastTurn_41 (by decide) ?_
  refine lv_aload_n hx hb dX6_leastTurn_42 rfl (lv_at hl 2 rfl) ?_
  refine va_get (D := (dC, dI)) (ci := 6) (v := .ref oS) (C := RX6) (T := TX6) (N := 12) hx hb hts inX6 hown hK hP 0 rfl rfl 2 (by decide) (hts _ wd_24) (fun _ h9 => h9) rfl dX6_leastTurn_43 ?_
  refine va_get (D := (dC, dI)) (ci := 5) (v := .ref rS_worths) (C := RX5) (T := TX5) (N := 3) hx hb hts inX5 hown hK hP 7 rfl rfl 0 (by decide) (hts _ wd_609) (fun _ h9 => h9) rfl dX6_leastTurn_46 ?_
  refine lv_iload_n hx hb dX6_leastTurn_49 rfl (lv_at hl 3 rfl) ?_
  refine va_iald hx hb hK hP 8 5 rfl rfl (ti_in rfl hp0.1 (om_b3735a34 hp0.2)) dX6_leastTurn_50 ?_
  refine lv_topi (fun x_5547 ex_5547 => ?_)
  have hG := hG.trans (lt_eq ex_5547)
  have kx_5547 : (fS_worths p0.toNatClampNeg).toInt = x_5547.toInt := by rw [ex_5547]
  refine lv_iload_n hx hb dX6_leastTurn_51 rfl (lv_at hl 1 rfl) ?_
  have hFc := va_freeI hD hS hA
  refine va_calli (va_runV (As := [.int p0, .int (-1), .int x_5547, .int x_5541]) (rest := []) ⟨hx, hb, hml, hown, hts⟩ (tX6_leastTurnTowards l dC dI _ oK oR oC oS oT rK_images iK_imageCount oA oH oL iK_refusal iK_latestFault iK_latestPlace iC_nodes iC_words iC_chances iC_unsures iC_slips iC_throneNode iC_saidWorth iC_unit rC_kind fC_kind kC_kind rC_parts fC_parts kC_parts rC_partNodes fC_partNodes kC_partNodes rC_weights fC_weights kC_weights rC_weightSums fC_weightSums kC_weightSums rC_toldWorths rC_steps rC_below rC_above rC_unsureWords rC_unsureWorths rS_worths fS_worths kS_worths rS_order rS_left rL_values f_5544 kL_values rL_supposed f_5545 kL_supposed p0 (-1) x_5547 x_5541 b_iK_imageCount b_iC_nodes b_iC_unsures b_iC_throneNode a_fC_parts a_fC_partNodes ⟨hp0.1, hp0.2⟩) (cwV 4 hts (wd_V wd_1126 wd_1127 wd_1128 wd_2 (wd_c wd_1129)) rfl rfl rfl dv_yX6_leastTurnTowards_4 ⟨Nat.le_of_ble_eq_true rfl, Nat.le_of_ble_eq_true rfl⟩) ⟨Pw.fb, recvX6 hK hP (q0 := 0) rfl, fun U hU hW => Pw.to hP hD hK hE hS hFc hU hW⟩ rfl rfl hl.1 rfl (lv_room (Nat.le_of_ble_eq_true rfl)) dX6_leastTurn_52 ⟨Nat.le_of_ble_eq_true rfl, Nat.le_of_ble_eq_true rfl⟩) hS (fun q _ h => hFc q h) hFc (fun r u t H locs ht hvm hw hB hz1 hk1 hS => ?_)
  have hru9 := hw.2
  have hw := hw.1
  refine ex_2_1 hB (fun f_5548 f_5549 e_f_5548_0 hB => ?_)
  obtain ⟨hP, hD⟩ := Bw.goA (ws' := [(oc6 oK oR oC oS oT rK_images iK_imageCount oA oH oL iK_refusal iK_latestFault iK_latestPlace), (oc1 oC iC_nodes iC_words iC_chances iC_unsures iC_slips iC_throneNode iC_saidWorth iC_unit rC_kind rC_parts rC_partNodes rC_weights rC_weightSums rC_toldWorths rC_steps rC_below rC_above rC_unsureWords rC_unsureWorths), (arI rC_kind kC_kind 18 fC_kind), (arI rC_parts kC_parts 18 fC_parts), (arI rC_partNodes kC_partNodes 72 fC_partNodes), (arI rC_weights kC_weights 72 fC_weights), (arI rC_weightSums kC_weightSums 18 fC_weightSums), (oc5 oS rS_worths rS_order rS_left), (arI rS_worths kS_worths 18 fS_worths), (oc4 oL rL_values rL_supposed), (arI rL_values kL_values 18 f_5548), (arI rL_supposed kL_supposed 18 f_5549)]) hB rfl ht hFc rfl
  clear hz1 hk1 hvm ht hB
  rw [← hru9] at e_f_5548_0
  obtain ⟨x_5550, rfl⟩ : ∃ z, z = r := ⟨_, rfl⟩
  have hG := hG.trans (un3_eq e_f_5548_0)
  refine lv_istore (lv' := [(4, .int x_5550), (3, .int x_5546), (2, .int x_5541), (0, .ref oK), (1, .int p0)]) hx hb dX6_leastTurn_55 hl (by decide) rfl (fun ls hl => ?_)
  refine lv_iload_n hx hb dX6_leastTurn_57 rfl (lv_at hl 1 rfl) ?_
  refine lv_if_lt (tgt := 66) hx hb dX6_leastTurn_58 (by decide) (fun c_5551 => ?_) (fun c_5551 => ?_)
  · skip
    have hG := hG.trans (if_pos c_5551)
    have gc_5551 := ti_lt c_5551 rfl kc_0
    refine lv_iload_n hx hb dX6_leastTurn_66 rfl (lv_at hl 1 rfl) ?_
    refine lv_iload hx hb dX6_leastTurn_67 (lv_at hl 0 rfl) ?_
    refine va_mmax hx hb (hml.trans hl.1.symm) hown (hts _ wd_1125) (hts _ wd_321) (hts _ wd_322) (hts _ wd_323) (Nat.le_of_ble_eq_true rfl) (Nat.le_of_ble_eq_true rfl) (Nat.le_of_ble_eq_true rfl) (Nat.le_of_ble_eq_true rfl) dX6_leastTurn_69 ?_
    refine lv_topi (fun x_5552 ex_5552 => ?_)
    have hG := hG.trans (lt_eq ex_5552)
    have qx_5552 := ti_max ex_5552 rfl rfl
    exact wq_i hx hb hr (cI x_5552) ⟨⟨trivial, trivial⟩, (cI_of x_5552)⟩ (fun t ht hW => ⟨f_5548, f_5549, (cI_tup hG), Bw.to hP hD hK ht hW⟩) hS dX6_leastTurn_72 hlocks
  · skip
    have hG := hG.trans (if_neg c_5551)
    have gc_5551 := ti_nlt c_5551 rfl kc_0
    refine lv_iload hx hb dX6_leastTurn_61 (lv_at hl 0 rfl) ?_
    refine lv_if_ge (tgt := 73) hx hb dX6_leastTurn_63 (by decide) (fun c_5553 => ?_) (fun c_5553 => ?_)
    · skip
      have hG := hG.trans (if_pos c_5553)
      have gc_5553 := ti_le c_5553 kc_0 rfl
      refine lv_iload_n hx hb dX6_leastTurn_73 rfl (lv_at hl 1 rfl) ?_
      refine lv_iload hx hb dX6_leastTurn_74 (lv_at hl 0 rfl) ?_
      refine va_mmin hx hb (hml.trans hl.1.symm) hown (hts _ wd_1079) (hts _ wd_759) (hts _ wd_322) (hts _ wd_760) (Nat.le_of_ble_eq_true rfl) (Nat.le_of_ble_eq_true rfl) (Nat.le_of_ble_eq_true rfl) (Nat.le_of_ble_eq_true rfl) dX6_leastTurn_76 ?_
      refine lv_topi (fun x_5554 ex_5554 => ?_)
      have hG := hG.trans (lt_eq ex_5554)
      have qx_5554 := ti_min ex_5554 rfl rfl
      exact wq_i hx hb hr (cI x_5554) ⟨⟨trivial, trivial⟩, (cI_of x_5554)⟩ (fun t ht hW => ⟨f_5548, f_5549, (cI_tup hG), Bw.to hP hD hK ht hW⟩) hS dX6_leastTurn_79 hlocks
    · skip
      have hG := hG.trans (if_neg c_5553)
      have gc_5553 := ti_nle c_5553 kc_0 rfl
      refine lv_iload_n hx hb dX6_leastTurn_66 rfl (lv_at hl 1 rfl) ?_
      refine lv_iload hx hb dX6_leastTurn_67 (lv_at hl 0 rfl) ?_
      refine va_mmax hx hb (hml.trans hl.1.symm) hown (hts _ wd_1125) (hts _ wd_321) (hts _ wd_322) (hts _ wd_323) (Nat.le_of_ble_eq_true rfl) (Nat.le_of_ble_eq_true rfl) (Nat.le_of_ble_eq_true rfl) (Nat.le_of_ble_eq_true rfl) dX6_leastTurn_69 ?_
      refine lv_topi (fun x_5555 ex_5555 => ?_)
      have hG := hG.trans (lt_eq ex_5555)
      have qx_5555 := ti_max ex_5555 rfl rfl
      exact wq_i hx hb hr (cI x_5555) ⟨⟨trivial, trivial⟩, (cI_of x_5555)⟩ (fun t ht hW => ⟨f_5548, f_5549, (cI_tup hG), Bw.to hP hD hK ht hW⟩) hS dX6_leastTurn_72 hlocks
set_option maxHeartbeats 4000000 in
set_option maxRecDepth 100000 in
theorem tX6_turn (l : Launch) (dC : Nat → ClassId) (dI : Nat → Nat → Nat) (sz : Nat) (oK : Nat) (oR : Nat) (oC : Nat) (oS : Nat) (oT : Nat) (rK_images : Nat) (iK_imageCount : Int32) (oA : Nat) (oH : Nat) (oL : Nat) (iK_refusal : Int32) (iK_latestFault : Int32) (iK_latestPlace : Int32) (iC_nodes : Int32) (iC_words : Int32) (iC_chances : Int32) (iC_unsures : Int32) (iC_slips : Int32) (iC_throneNode : Int32) (iC_saidWorth : Int32) (iC_unit : Int32) (rC_kind : Nat) (fC_kind : Nat → Int32) (kC_kind : ClassId) (rC_parts : Nat) (fC_parts : Nat → Int32) (kC_parts : ClassId) (rC_partNodes : Nat) (fC_partNodes : Nat → Int32) (kC_partNodes : ClassId) (rC_weights : Nat) (fC_weights : Nat → Int32) (kC_weights : ClassId) (rC_weightSums : Nat) (fC_weightSums : Nat → Int32) (kC_weightSums : ClassId) (rC_toldWorths : Nat) (rC_steps : Nat) (rC_below : Nat) (rC_above : Nat) (rC_unsureWords : Nat) (rC_unsureWorths : Nat) (rS_worths : Nat) (fS_worths : Nat → Int32) (kS_worths : ClassId) (rS_order : Nat) (rS_left : Nat) (rL_values : Nat) (fL_values : Nat → Int32) (kL_values : ClassId) (rL_supposed : Nat) (fL_supposed : Nat → Int32) (kL_supposed : ClassId) (p0 : Int32) (b_iK_imageCount : 0 ≤ iK_imageCount.toInt ∧ iK_imageCount.toInt ≤ 3) (b_iC_nodes : 0 ≤ iC_nodes.toInt ∧ iC_nodes.toInt ≤ 18) (b_iC_unsures : 0 ≤ iC_unsures.toInt ∧ iC_unsures.toInt ≤ 4) (b_iC_throneNode : (-1) ≤ iC_throneNode.toInt ∧ iC_throneNode.toInt ≤ 17) (a_fC_parts : ∀ j : Nat, j < 18 → 0 ≤ (fC_parts j).toInt ∧ (fC_parts j).toInt ≤ 4) (a_fC_partNodes : ∀ j : Nat, j < 72 → 0 ≤ (fC_partNodes j).toInt ∧ (fC_partNodes j).toInt ≤ 17)  : Met l yX6_turn (Cond.code yX6_turn cX6_turn 2 (some .int) :: wG) ({ frames := 6, cells := 0, slots := 0, locals := 147 }) (va_Pc [.ref oK, .int p0] (Pw dC dI sz [(oc6 oK oR oC oS oT rK_images iK_imageCount oA oH oL iK_refusal iK_latestFault iK_latestPlace), (oc1 oC iC_nodes iC_words iC_chances iC_unsures iC_slips iC_throneNode iC_saidWorth iC_unit rC_kind rC_parts rC_partNodes rC_weights rC_weightSums rC_toldWorths rC_steps rC_below rC_above rC_unsureWords rC_unsureWorths), (arI rC_kind kC_kind 18 fC_kind), (arI rC_parts kC_parts 18 fC_parts), (arI rC_partNodes kC_partNodes 72 fC_partNodes), (arI rC_weights kC_weights 72 fC_weights), (arI rC_weightSums kC_weightSums 18 fC_weightSums), (oc5 oS rS_worths rS_order rS_left), (arI rS_worths kS_worths 18 fS_worths), (oc4 oL rL_values rL_supposed), (arI rL_values kL_values 18 fL_values), (arI rL_supposed kL_supposed 18 fL_supposed)] [(kC_kind, .int), (kC_parts, .int), (kC_partNodes, .int), (kC_weights, .int), (kC_weightSums, .int), (kS_worths, .int), (kL_values, .int), (kL_supposed, .int)])) (va_Qi (fun (r : Int32) (u : Nat) => (True ∧ True) ∧ r = Int32.ofNat u) (fun (u : Nat) (t : State) => ∃ (niK_refusal : Int32) (nfL_values : Nat → Int32) (nfL_supposed : Nat → Int32), (PX6_turn iC_nodes iC_throneNode iC_unit fC_kind fC_parts fC_partNodes fC_weights fC_weightSums fS_worths fL_values fL_supposed p0 = (Int32.ofNat u, niK_refusal, nfL_values, nfL_supposed)) ∧ Bw dC dI (va_A [(oc6 oK oR oC oS oT rK_images iK_imageCount oA oH oL iK_refusal iK_latestFault iK_latestPlace), (oc1 oC iC_nodes iC_words iC_chances iC_unsures iC_slips iC_throneNode iC_saidWorth iC_unit rC_kind rC_parts rC_partNodes rC_weights rC_weightSums rC_toldWorths rC_steps rC_below rC_above rC_unsureWords rC_unsureWorths), (arI rC_kind kC_kind 18 fC_kind), (arI rC_parts kC_parts 18 fC_parts), (arI rC_partNodes kC_partNodes 72 fC_partNodes), (arI rC_weights kC_weights 72 fC_weights), (arI rC_weightSums kC_weightSums 18 fC_weightSums), (oc5 oS rS_worths rS_order rS_left), (arI rS_worths kS_worths 18 fS_worths), (oc4 oL rL_values rL_supposed), (arI rL_values kL_values 18 fL_values), (arI rL_supposed kL_supposed 18 fL_supposed)] sz) [(oc6 oK oR oC oS oT rK_images iK_imageCount oA oH oL niK_refusal iK_latestFault iK_latestPlace), (oc1 oC iC_nodes iC_words iC_chances iC_unsures iC_slips iC_throneNode iC_saidWorth iC_unit rC_kind rC_parts rC_partNodes rC_weights rC_weightSums rC_toldWorths rC_steps rC_below rC_above rC_unsureWords rC_unsureWorths), (arI rC_kind kC_kind 18 fC_kind), (arI rC_parts kC_parts 18 fC_parts), (arI rC_partNodes kC_partNodes 72 fC_partNodes), (arI rC_weights kC_weights 72 fC_weights), (arI rC_weightSums kC_weightSums 18 fC_weightSums), (oc5 oS rS_worths rS_order rS_left), (arI rS_worths kS_worths 18 fS_worths), (oc4 oL rL_values rL_supposed), (arI rL_values kL_values 18 nfL_values), (arI rL_supposed kL_supposed 18 nfL_supposed)] [(kC_kind, .int), (kC_parts, .int), (kC_partNodes, .int), (kC_weights, .int), (kC_weightSums, .int), (kS_worths, .int), (kL_values, .int), (kL_supposed, .int)] t) (va_A [(oc6 oK oR oC oS oT rK_images iK_imageCount oA oH oL iK_refusal iK_latestFault iK_latestPlace), (oc1 oC iC_nodes iC_words iC_chances iC_unsures iC_slips iC_throneNode iC_saidWorth iC_unit rC_kind rC_parts rC_partNodes rC_weights rC_weightSums rC_toldWorths rC_steps rC_below rC_above rC_unsureWords rC_unsureWorths), (arI rC_kind kC_kind 18 fC_kind), (arI rC_parts kC_parts 18 fC_parts), (arI rC_partNodes kC_partNodes 72 fC_partNodes), (arI rC_weights kC_weights 72 fC_weights), (arI rC_weightSums kC_weightSums 18 fC_weightSums), (oc5 oS rS_worths rS_order rS_left), (arI rS_worths kS_worths 18 fS_worths), (oc4 oL rL_values rL_supposed), (arI rL_values kL_values 18 fL_values), (arI rL_supposed kL_supposed 18 fL_supposed)] sz)) 0 0 (va_A [(oc6 oK oR oC oS oT rK_images iK_imageCount oA oH oL iK_refusal iK_latestFault iK_latestPlace), (oc1 oC iC_nodes iC_words iC_chances iC_unsures iC_slips iC_throneNode iC_saidWorth iC_unit rC_kind rC_parts rC_partNodes rC_weights rC_weightSums rC_toldWorths rC_steps rC_below rC_above rC_unsureWords rC_unsureWorths), (arI rC_kind kC_kind 18 fC_kind), (arI rC_parts kC_parts 18 fC_parts), (arI rC_partNodes kC_partNodes 72 fC_partNodes), (arI rC_weights kC_weights 72 fC_weights), (arI rC_weightSums kC_weightSums 18 fC_weightSums), (oc5 oS rS_worths rS_order rS_left), (arI rS_worths kS_worths 18 fS_worths), (oc4 oL rL_values rL_supposed), (arI rL_values kL_values 18 fL_values), (arI rL_supposed kL_supposed 18 fL_supposed)] sz) := by
  refine Met.ofW (cc := cX6_turn) (maxL := 2) (ret := (some .int)) pnX6 rfl ?_
  intro p e s m args below meth c s₁ B hml hv
  obtain ⟨rfl, hsz, hP, hK, hD0, hE⟩ := hv
  have hx := B.exec
  have hb := B.bytes
  have hr := B.returns
  have hts : ∀ w ∈ wG, w.before ([.ref oK, .int p0] : List Value).toArray s = true := fun w h => atoms_spec (ws := Cond.code yX6_turn cX6_turn 2 (some .int) :: wG) B.pre w (List.mem_cons_of_mem _ h)
  have hown : s.vm.findClass RX6 = some m.cls := own_of B.named rfl
  have hlocks := B.notSynchronized
  subst hsz
  have hD := hD0.self (sz := s.heap.size)
  generalize hAe : va_A [(oc6 oK oR oC oS oT rK_images iK_imageCount oA oH oL iK_refusal iK_latestFault iK_latestPlace), (oc1 oC iC_nodes iC_words iC_chances iC_unsures iC_slips iC_throneNode iC_saidWorth iC_unit rC_kind rC_parts rC_partNodes rC_weights rC_weightSums rC_toldWorths rC_steps rC_below rC_above rC_unsureWords rC_unsureWorths), (arI rC_kind kC_kind 18 fC_kind), (arI rC_parts kC_parts 18 fC_parts), (arI rC_partNodes kC_partNodes 72 fC_partNodes), (arI rC_weights kC_weights 72 fC_weights), (arI rC_weightSums kC_weightSums 18 fC_weightSums), (oc5 oS rS_worths rS_order rS_left), (arI rS_worths kS_worths 18 fS_worths), (oc4 oL rL_values rL_supposed), (arI rL_values kL_values 18 fL_values), (arI rL_supposed kL_supposed 18 fL_supposed)] s.heap.size = A at hD hE ⊢
  have hA : ∀ q : Nat, s.heap.size ≤ q → A q := fun q h => by rw [← hAe]; exact Or.inr h
  have hS : va_S A s.heap s.heap [] := va_S.rf
  have hl := lv_entry ([.ref oK, .int p0]) (n := 2) (Nat.le_of_ble_eq_true rfl)
  rw [lg_entry_eq]
  generalize (lg_sl ([.ref oK, .int p0]) ++ List.replicate (2 - (lg_sl ([.ref oK, .int p0])).length) Slot.unset).toArray = ls at hl ⊢
  have hl : lv_has ls 2 [(0, .ref oK), (1, .int p0)] := hl
  have hG := PX6_turn_eq iC_nodes iC_throneNode iC_unit fC_kind fC_parts fC_partNodes fC_weights fC_weightSums fS_worths fL_values fL_supposed p0
  refine lv_aload_n hx hb dX6_turn_0 rfl (lv_at hl 0 rfl) ?_
  refine lv_iload_n hx hb dX6_turn_1 rfl (lv_at hl 1 rfl) ?_
  have hMs := ml_of hD [true, true, true, false, false, false, false, false, false, false, false, false] (wc := [(oc6 oK oR oC oS oT rK_images iK_imageCount oA oH oL iK_refusal iK_latestFault iK_latestPlace), (oc1 oC iC_nodes iC_words iC_chances iC_unsures iC_slips iC_throneNode iC_saidWorth iC_unit rC_kind rC_parts rC_partNodes rC_weights rC_weightSums rC_toldWorths rC_steps rC_below rC_above rC_unsureWords rC_unsureWorths), (arI rC_kind kC_kind 18 fC_kind)]) rfl
  have hFc := va_freeM hD hS hA _ hMs
  refine va_calli (va_runV (As := [.int p0]) (rest := []) ⟨hx, hb, hml, hown, hts⟩ (tX6_lacksWord l dC dI _ oK oR oC oS oT rK_images iK_imageCount oA oH oL iK_refusal iK_latestFault iK_latestPlace iC_nodes iC_words iC_chances iC_unsures iC_slips iC_throneNode iC_saidWorth iC_unit rC_kind fC_kind kC_kind rC_parts rC_partNodes rC_weights rC_weightSums rC_toldWorths rC_steps rC_below rC_above rC_unsureWords rC_unsureWorths p0 b_iK_imageCount b_iC_nodes b_iC_unsures b_iC_throneNode) (cwV 1 hts (wd_V wd_1116 wd_1117 wd_1118 wd_2 (wd_c wd_1119)) rfl rfl rfl dv_yX6_lacksWord_1 ⟨Nat.le_of_ble_eq_true rfl, Nat.le_of_ble_eq_true rfl⟩) ⟨Pw.fb, recvX6 hK hP (q0 := 0) rfl, fun U hU hW => Pw.to (hP.ms _ hMs) (hD.ms _ hMs) (hK.ms [true, false, false, false, false, false, false, false] rfl) hE hS hFc hU hW⟩ rfl rfl hl.1 rfl (lv_room (Nat.le_of_ble_eq_true rfl)) dX6_turn_2 ⟨Nat.le_of_ble_eq_true rfl, Nat.le_of_ble_eq_true rfl⟩) hS (fun q _ h => hFc q h) hFc (fun r u t H locs ht hvm hw hB hz1 hk1 hS => ?_)
  have hru9 := hw.2
  have hw := hw.1
  refine ex_1_2 hB (fun x_5563 b_x_5563 e_x_5563_0 hB => ?_)
  obtain ⟨hP, hD⟩ := Bw.goN (ws' := [(oc6 oK oR oC oS oT rK_images iK_imageCount oA oH oL x_5563 iK_latestFault iK_latestPlace), (oc1 oC iC_nodes iC_words iC_chances iC_unsures iC_slips iC_throneNode iC_saidWorth iC_unit rC_kind rC_parts rC_partNodes rC_weights rC_weightSums rC_toldWorths rC_steps rC_below rC_above rC_unsureWords rC_unsureWorths), (arI rC_kind kC_kind 18 fC_kind), (arI rC_parts kC_parts 18 fC_parts), (arI rC_partNodes kC_partNodes 72 fC_partNodes), (arI rC_weights kC_weights 72 fC_weights), (arI rC_weightSums kC_weightSums 18 fC_weightSums), (oc5 oS rS_worths rS_order rS_left), (arI rS_worths kS_worths 18 fS_worths), (oc4 oL rL_values rL_supposed), (arI rL_values kL_values 18 fL_values), (arI rL_supposed kL_supposed 18 fL_supposed)]) hB rfl ht hP hD _ hMs hk1 hFc rfl
  clear hz1 hk1 hvm ht hB hMs
  rw [← hru9] at e_x_5563_0
  rcases hw.2 with ⟨rfl, hc_5564⟩ | ⟨rfl, hc_5564⟩
  · skip
    have hG := hG.trans (un2_eq e_x_5563_0)
    have hG := hG.trans (if_pos rfl)
    refine lv_if_eq (tgt := 10) hx hb dX6_turn_5 (by decide) (fun _ => ?_) (fun c => absurd c (by decide))
    refine lv_aload_n hx hb dX6_turn_10 rfl (lv_at hl 0 rfl) ?_
    refine lv_iload_n hx hb dX6_turn_11 rfl (lv_at hl 1 rfl) ?_
    have hFc := va_freeI hD hS hA
    refine va_calli (va_runV (As := [.int p0]) (rest := []) ⟨hx, hb, hml, hown, hts⟩ (tX6_leastTurn l dC dI _ oK oR oC oS oT rK_images iK_imageCount oA oH oL x_5563 iK_latestFault iK_latestPlace iC_nodes iC_words iC_chances iC_unsures iC_slips iC_throneNode iC_saidWorth iC_unit rC_kind fC_kind kC_kind rC_parts fC_parts kC_parts rC_partNodes fC_partNodes kC_partNodes rC_weights fC_weights kC_weights rC_weightSums fC_weightSums kC_weightSums rC_toldWorths rC_steps rC_below rC_above rC_unsureWords rC_unsureWorths rS_worths fS_worths kS_worths rS_order rS_left rL_values fL_values kL_values rL_supposed fL_supposed kL_supposed p0 b_iK_imageCount b_iC_nodes b_iC_unsures b_iC_throneNode a_fC_parts a_fC_partNodes ⟨hc_5564.1, (om_525c5d3e b_iC_nodes.2 hc_5564.2)⟩) (cwV 1 hts (wd_V wd_1121 wd_1122 wd_1123 wd_2 (wd_c wd_1124)) rfl rfl rfl dv_yX6_leastTurn_1 ⟨Nat.le_of_ble_eq_true rfl, Nat.le_of_ble_eq_true rfl⟩) ⟨Pw.fb, recvX6 hK hP (q0 := 0) rfl, fun U hU hW => Pw.to hP hD hK hE hS hFc hU hW⟩ rfl rfl hl.1 rfl (lv_room (Nat.le_of_ble_eq_true rfl)) dX6_turn_12 ⟨Nat.le_of_ble_eq_true rfl, Nat.le_of_ble_eq_true rfl⟩) hS (fun q _ h => hFc q h) hFc (fun r u t H locs ht hvm hw hB hz1 hk1 hS => ?_)
    have hru9 := hw.2
    have hw := hw.1
    refine ex_2_1 hB (fun f_5567 f_5568 e_f_5567_0 hB => ?_)
    obtain ⟨hP, hD⟩ := Bw.goA (ws' := [(oc6 oK oR oC oS oT rK_images iK_imageCount oA oH oL x_5563 iK_latestFault iK_latestPlace), (oc1 oC iC_nodes iC_words iC_chances iC_unsures iC_slips iC_throneNode iC_saidWorth iC_unit rC_kind rC_parts rC_partNodes rC_weights rC_weightSums rC_toldWorths rC_steps rC_below rC_above rC_unsureWords rC_unsureWorths), (arI rC_kind kC_kind 18 fC_kind), (arI rC_parts kC_parts 18 fC_parts), (arI rC_partNodes kC_partNodes 72 fC_partNodes), (arI rC_weights kC_weights 72 fC_weights), (arI rC_weightSums kC_weightSums 18 fC_weightSums), (oc5 oS rS_worths rS_order rS_left), (arI rS_worths kS_worths 18 fS_worths), (oc4 oL rL_values rL_supposed), (arI rL_values kL_values 18 f_5567), (arI rL_supposed kL_supposed 18 f_5568)]) hB rfl ht hFc rfl
    clear hz1 hk1 hvm ht hB
    rw [← hru9] at e_f_5567_0
    obtain ⟨x_5569, rfl⟩ : ∃ z, z = r := ⟨_, rfl⟩
    have hG := hG.trans (un3_eq e_f_5567_0)
    exact wq_i hx hb hr (cI x_5569) ⟨⟨trivial, trivial⟩, (cI_of x_5569)⟩ (fun t ht hW => ⟨x_5563, f_5567, f_5568, (cI_tup hG), Bw.to hP hD hK ht hW⟩) hS dX6_turn_15 hlocks
  · skip
    have hG := hG.trans (un2_eq e_x_5563_0)
    have hG := hG.trans (if_neg (by decide))
    refine lv_if_eq (tgt := 10) hx hb dX6_turn_5 (by decide) (fun c => absurd c (by decide)) (fun _ => ?_)
    refine lv_iconst (v := (-1)) hx hb dX6_turn_8 (by decide) ?_
    exact wq_i hx hb hr (cI (-1)) ⟨⟨trivial, trivial⟩, (cI_of (-1))⟩ (fun t ht hW => ⟨x_5563, fL_values, fL_supposed, (cI_tup hG), Bw.to hP hD hK ht hW⟩) hS dX6_turn_9 hlocks
set_option maxHeartbeats 4000000 in
set_option maxRecDepth 100000 in
theorem tX6_pivot (l : Launch) (dC : Nat → ClassId) (dI : Nat → Nat → Nat) (sz : Nat) (oK : Nat) (oR : Nat) (oC : Nat) (oS : Nat) (oT : Nat) (rK_images : Nat) (iK_imageCount : Int32) (oA : Nat) (oH : Nat) (oL : Nat) (iK_refusal : Int32) (iK_latestFault : Int32) (iK_latestPlace : Int32) (iC_nodes : Int32) (iC_words : Int32) (iC_chances : Int32) (iC_unsures : Int32) (iC_slips : Int32) (iC_throneNode : Int32) (iC_saidWorth : Int32) (iC_unit : Int32) (rC_kind : Nat) (fC_kind : Nat → Int32) (kC_kind : ClassId) (rC_parts : Nat) (fC_parts : Nat → Int32) (kC_parts : ClassId) (rC_partNodes : Nat) (fC_partNodes : Nat → Int32) (kC_partNodes : ClassId) (rC_weights : Nat) (fC_weights : Nat → Int32) (kC_weights : ClassId) (rC_weightSums : Nat) (fC_weightSums : Nat → Int32) (kC_weightSums : ClassId) (rC_toldWorths : Nat) (rC_steps : Nat) (rC_below : Nat) (rC_above : Nat) (rC_unsureWords : Nat) (rC_unsureWorths : Nat) (rS_worths : Nat) (fS_worths : Nat → Int32) (kS_worths : ClassId) (rS_order : Nat) (rS_left : Nat) (rL_values : Nat) (fL_values : Nat → Int32) (kL_values : ClassId) (rL_supposed : Nat) (fL_supposed : Nat → Int32) (kL_supposed : ClassId) (b_iK_imageCount : 0 ≤ iK_imageCount.toInt ∧ iK_imageCount.toInt ≤ 3) (b_iC_nodes : 0 ≤ iC_nodes.toInt ∧ iC_nodes.toInt ≤ 18) (b_iC_unsures : 0 ≤ iC_unsures.toInt ∧ iC_unsures.toInt ≤ 4) (b_iC_throneNode : (-1) ≤ iC_throneNode.toInt ∧ iC_throneNode.toInt ≤ 17) (a_fC_parts : ∀ j : Nat, j < 18 → 0 ≤ (fC_parts j).toInt ∧ (fC_parts j).toInt ≤ 4) (a_fC_partNodes : ∀ j : Nat, j < 72 → 0 ≤ (fC_partNodes j).toInt ∧ (fC_partNodes j).toInt ≤ 17)  : Met l yX6_pivot (Cond.code yX6_pivot cX6_pivot 5 (some .int) :: wG) ({ frames := 6, cells := 0, slots := 0, locals := 147 }) (va_Pc [.ref oK] (Pw dC dI sz [(oc6 oK oR oC oS oT rK_images iK_imageCount oA oH oL iK_refusal iK_latestFault iK_latestPlace), (oc1 oC iC_nodes iC_words iC_chances iC_unsures iC_slips iC_throneNode iC_saidWorth iC_unit rC_kind rC_parts rC_partNodes rC_weights rC_weightSums rC_toldWorths rC_steps rC_below rC_above rC_unsureWords rC_unsureWorths), (arI rC_kind kC_kind 18 fC_kind), (arI rC_parts kC_parts 18 fC_parts), (arI rC_partNodes kC_partNodes 72 fC_partNodes), (arI rC_weights kC_weights 72 fC_weights), (arI rC_weightSums kC_weightSums 18 fC_weightSums), (oc5 oS rS_worths rS_order rS_left), (arI rS_worths kS_worths 18 fS_worths), (oc4 oL rL_values rL_supposed), (arI rL_values kL_values 18 fL_values), (arI rL_supposed kL_supposed 18 fL_supposed)] [(kC_kind, .int), (kC_parts, .int), (kC_partNodes, .int), (kC_weights, .int), (kC_weightSums, .int), (kS_worths, .int), (kL_values, .int), (kL_supposed, .int)])) (va_Qi (fun (r : Int32) (u : Nat) => (True ∧ True) ∧ r = Int32.ofNat u) (fun (u : Nat) (t : State) => ∃ (niK_refusal : Int32) (nfL_values : Nat → Int32) (nfL_supposed : Nat → Int32), (PX6_pivot iC_nodes iC_throneNode iC_unit fC_kind fC_parts fC_partNodes fC_weights fC_weightSums fS_worths fL_values fL_supposed = (Int32.ofNat u, niK_refusal, nfL_values, nfL_supposed)) ∧ Bw dC dI (va_A [(oc6 oK oR oC oS oT rK_images iK_imageCount oA oH oL iK_refusal iK_latestFault iK_latestPlace), (oc1 oC iC_nodes iC_words iC_chances iC_unsures iC_slips iC_throneNode iC_saidWorth iC_unit rC_kind rC_parts rC_partNodes rC_weights rC_weightSums rC_toldWorths rC_steps rC_below rC_above rC_unsureWords rC_unsureWorths), (arI rC_kind kC_kind 18 fC_kind), (arI rC_parts kC_parts 18 fC_parts), (arI rC_partNodes kC_partNodes 72 fC_partNodes), (arI rC_weights kC_weights 72 fC_weights), (arI rC_weightSums kC_weightSums 18 fC_weightSums), (oc5 oS rS_worths rS_order rS_left), (arI rS_worths kS_worths 18 fS_worths), (oc4 oL rL_values rL_supposed), (arI rL_values kL_values 18 fL_values), (arI rL_supposed kL_supposed 18 fL_supposed)] sz) [(oc6 oK oR oC oS oT rK_images iK_imageCount oA oH oL niK_refusal iK_latestFault iK_latestPlace), (oc1 oC iC_nodes iC_words iC_chances iC_unsures iC_slips iC_throneNode iC_saidWorth iC_unit rC_kind rC_parts rC_partNodes rC_weights rC_weightSums rC_toldWorths rC_steps rC_below rC_above rC_unsureWords rC_unsureWorths), (arI rC_kind kC_kind 18 fC_kind), (arI rC_parts kC_parts 18 fC_parts), (arI rC_partNodes kC_partNodes 72 fC_partNodes), (arI rC_weights kC_weights 72 fC_weights), (arI rC_weightSums kC_weightSums 18 fC_weightSums), (oc5 oS rS_worths rS_order rS_left), (arI rS_worths kS_worths 18 fS_worths), (oc4 oL rL_values rL_supposed), (arI rL_values kL_values 18 nfL_values), (arI rL_supposed kL_supposed 18 nfL_supposed)] [(kC_kind, .int), (kC_parts, .int), (kC_partNodes, .int), (kC_weights, .int), (kC_weightSums, .int), (kS_worths, .int), (kL_values, .int), (kL_supposed, .int)] t) (va_A [(oc6 oK oR oC oS oT rK_images iK_imageCount oA oH oL iK_refusal iK_latestFault iK_latestPlace), (oc1 oC iC_nodes iC_words iC_chances iC_unsures iC_slips iC_throneNode iC_saidWorth iC_unit rC_kind rC_parts rC_partNodes rC_weights rC_weightSums rC_toldWorths rC_steps rC_below rC_above rC_unsureWords rC_unsureWorths), (arI rC_kind kC_kind 18 fC_kind), (arI rC_parts kC_parts 18 fC_parts), (arI rC_partNodes kC_partNodes 72 fC_partNodes), (arI rC_weights kC_weights 72 fC_weights), (arI rC_weightSums kC_weightSums 18 fC_weightSums), (oc5 oS rS_worths rS_order rS_left), (arI rS_worths kS_worths 18 fS_worths), (oc4 oL rL_values rL_supposed), (arI rL_values kL_values 18 fL_values), (arI rL_supposed kL_supposed 18 fL_supposed)] sz)) 0 0 (va_A [(oc6 oK oR oC oS oT rK_images iK_imageCount oA oH oL iK_refusal iK_latestFault iK_latestPlace), (oc1 oC iC_nodes iC_words iC_chances iC_unsures iC_slips iC_throneNode iC_saidWorth iC_unit rC_kind rC_parts rC_partNodes rC_weights rC_weightSums rC_toldWorths rC_steps rC_below rC_above rC_unsureWords rC_unsureWorths), (arI rC_kind kC_kind 18 fC_kind), (arI rC_parts kC_parts 18 fC_parts), (arI rC_partNodes kC_partNodes 72 fC_partNodes), (arI rC_weights kC_weights 72 fC_weights), (arI rC_weightSums kC_weightSums 18 fC_weightSums), (oc5 oS rS_worths rS_order rS_left), (arI rS_worths kS_worths 18 fS_worths), (oc4 oL rL_values rL_supposed), (arI rL_values kL_values 18 fL_values), (arI rL_supposed kL_supposed 18 fL_supposed)] sz) := by
  refine Met.ofW (cc := cX6_pivot) (maxL := 5) (ret := (some .int)) pnX6 rfl ?_
  intro p e s m args below meth c s₁ B hml hv
  obtain ⟨rfl, hsz, hP, hK, hD0, hE⟩ := hv
  have hx := B.exec
  have hb := B.bytes
  have hr := B.returns
  have hts : ∀ w ∈ wG, w.before ([.ref oK] : List Value).toArray s = true := fun w h => atoms_spec (ws := Cond.code yX6_pivot cX6_pivot 5 (some .int) :: wG) B.pre w (List.mem_cons_of_mem _ h)
  have hown : s.vm.findClass RX6 = some m.cls := own_of B.named rfl
  have hlocks := B.notSynchronized
  subst hsz
  have hD := hD0.self (sz := s.heap.size)
  generalize hAe : va_A [(oc6 oK oR oC oS oT rK_images iK_imageCount oA oH oL iK_refusal iK_latestFault iK_latestPlace), (oc1 oC iC_nodes iC_words iC_chances iC_unsures iC_slips iC_throneNode iC_saidWorth iC_unit rC_kind rC_parts rC_partNodes rC_weights rC_weightSums rC_toldWorths rC_steps rC_below rC_above rC_unsureWords rC_unsureWorths), (arI rC_kind kC_kind 18 fC_kind), (arI rC_parts kC_parts 18 fC_parts), (arI rC_partNodes kC_partNodes 72 fC_partNodes), (arI rC_weights kC_weights 72 fC_weights), (arI rC_weightSums kC_weightSums 18 fC_weightSums), (oc5 oS rS_worths rS_order rS_left), (arI rS_worths kS_worths 18 fS_worths), (oc4 oL rL_values rL_supposed), (arI rL_values kL_values 18 fL_values), (arI rL_supposed kL_supposed 18 fL_supposed)] s.heap.size = A at hD hE ⊢
  have hA : ∀ q : Nat, s.heap.size ≤ q → A q := fun q h => by rw [← hAe]; exact Or.inr h
  have hS : va_S A s.heap s.heap [] := va_S.rf
  have hl := lv_entry ([.ref oK]) (n := 5) (Nat.le_of_ble_eq_true rfl)
  rw [lg_entry_eq]
  generalize (lg_sl ([.ref oK]) ++ List.replicate (5 - (lg_sl ([.ref oK])).length) Slot.unset).toArray = ls at hl ⊢
  have hl : lv_has ls 5 [(0, .ref oK)] := hl
  have hG := PX6_pivot_eq iC_nodes iC_throneNode iC_unit fC_kind fC_parts fC_partNodes fC_weights fC_weightSums fS_worths fL_values fL_supposed
  refine lv_aload_n hx hb dX6_pivot_0 rfl (lv_at hl 0 rfl) ?_
  have hMs := ml_of hD [true, true, false, false, false, false, false, false, false, false, false, false] (wc := [(oc6 oK oR oC oS oT rK_images iK_imageCount oA oH oL iK_refusal iK_latestFault iK_latestPlace), (oc1 oC iC_nodes iC_words iC_chances iC_unsures iC_slips iC_throneNode iC_saidWorth iC_unit rC_kind rC_parts rC_partNodes rC_weights rC_weightSums rC_toldWorths rC_steps rC_below rC_above rC_unsureWords rC_unsureWorths)]) rfl
  have hFc := va_freeM hD hS hA _ hMs
  refine va_calli (va_runV (As := []) (rest := []) ⟨hx, hb, hml, hown, hts⟩ (tX6_lacksCourt l dC dI _ oK oR oC oS oT rK_images iK_imageCount oA oH oL iK_refusal iK_latestFault iK_latestPlace iC_nodes iC_words iC_chances iC_unsures iC_slips iC_throneNode iC_saidWorth iC_unit rC_kind rC_parts rC_partNodes rC_weights rC_weightSums rC_toldWorths rC_steps rC_below rC_above rC_unsureWords rC_unsureWorths b_iK_imageCount b_iC_nodes b_iC_unsures b_iC_throneNode) (cwV 0 hts (wd_V wd_596 wd_597 wd_598 wd_2 (wd_c wd_599)) rfl rfl rfl dv_yX6_lacksCourt_0 ⟨Nat.le_of_ble_eq_true rfl, Nat.le_of_ble_eq_true rfl⟩) ⟨Pw.fb, recvX6 hK hP (q0 := 0) rfl, fun U hU hW => Pw.to (hP.ms _ hMs) (hD.ms _ hMs) (hK.ms [false, false, false, false, false, false, false, false] rfl) hE hS hFc hU hW⟩ rfl rfl hl.1 rfl (lv_room (Nat.le_of_ble_eq_true rfl)) dX6_pivot_1 ⟨Nat.le_of_ble_eq_true rfl, Nat.le_of_ble_eq_true rfl⟩) hS (fun q _ h => hFc q h) hFc (fun r u t H locs ht hvm hw hB hz1 hk1 hS => ?_)
  have hru9 := hw.2
  have hw := hw.1
  refine ex_1_2 hB (fun x_5630 b_x_5630 e_x_5630_0 hB => ?_)
  obtain ⟨hP, hD⟩ := Bw.goN (ws' := [(oc6 oK oR oC oS oT rK_images iK_imageCount oA oH oL x_5630 iK_latestFault iK_latestPlace), (oc1 oC iC_nodes iC_words iC_chances iC_unsures iC_slips iC_throneNode iC_saidWorth iC_unit rC_kind rC_parts rC_partNodes rC_weights rC_weightSums rC_toldWorths rC_steps rC_below rC_above rC_unsureWords rC_unsureWorths), (arI rC_kind kC_kind 18 fC_kind), (arI rC_parts kC_parts 18 fC_parts), (arI rC_partNodes kC_partNodes 72 fC_partNodes), (arI rC_weights kC_weights 72 fC_weights), (arI rC_weightSums kC_weightSums 18 fC_weightSums), (oc5 oS rS_worths rS_order rS_left), (arI rS_worths kS_worths 18 fS_worths), (oc4 oL rL_values rL_supposed), (arI rL_values kL_values 18 fL_values), (arI rL_supposed kL_supposed 18 fL_supposed)]) hB rfl ht hP hD _ hMs hk1 hFc rfl
  clear hz1 hk1 hvm ht hB hMs
  have rg_x_5630 := fb_rng x_5630
  rw [← hru9] at e_x_5630_0
  rcases hw.2 with ⟨rfl, hc_5631⟩ | ⟨rfl, hc_5631⟩
  · skip
    have rg_iC_nodes := fb_rng iC_nodes
    have hG := hG.trans (un2_eq e_x_5630_0)
    have hG := hG.trans (if_pos rfl)
    refine lv_if_eq (tgt := 9) hx hb dX6_pivot_4 (by decide) (fun _ => ?_) (fun c => absurd c (by decide))
    refine lv_bipush (v := (-2)) hx hb dX6_pivot_9 (by decide) ?_
    refine lv_istore_n (lv' := [(1, .int (-2)), (0, .ref oK)]) hx hb dX6_pivot_11 rfl hl (by decide) rfl (fun ls hl => ?_)
    refine lv_iconst (v := 0) hx hb dX6_pivot_12 (by decide) ?_
    refine lv_istore_n (lv' := [(2, .int 0), (1, .int (-2)), (0, .ref oK)]) hx hb dX6_pivot_13 rfl hl (by decide) rfl (fun ls hl => ?_)
    refine lv_iconst (v := 0) hx hb dX6_pivot_14 (by decide) ?_
    refine lv_istore_n (lv' := [(3, .int 0), (2, .int 0), (1, .int (-2)), (0, .ref oK)]) hx hb dX6_pivot_15 rfl hl (by decide) rfl (fun ls hl => ?_)
    have hl := lv_sub hl (l' := [(3, .int 0), (2, .int 0), (1, .int (-2)), (0, .ref oK)]) [0, 1, 2, 3] rfl
    have key_n_5639 : ∀ (n_5639 : Nat) (z_5634 : Int32) (z_5635 : Int32) (z_5636 : Int32) (f_5637 : Nat → Int32) (f_5638 : Nat → Int32) (H : Heap) (locs : List Loc) (ls : Array Slot), (0 ≤ z_5634.toInt ∧ z_5634.toInt ≤ 2147483647) → (2147483647 - z_5634.toInt).toNat < n_5639 → (PX6_pivot iC_nodes iC_throneNode iC_unit fC_kind fC_parts fC_partNodes fC_weights fC_weightSums fS_worths fL_values fL_supposed = HX6_pivot_0 iC_nodes iC_throneNode iC_unit fC_kind fC_parts fC_partNodes fC_weights fC_weightSums fS_worths x_5630 n_5639 z_5634 z_5635 z_5636 f_5637 f_5638) → va_P (dC, dI) vwCl [(oc6 oK oR oC oS oT rK_images iK_imageCount oA oH oL x_5630 iK_latestFault iK_latestPlace), (oc1 oC iC_nodes iC_words iC_chances iC_unsures iC_slips iC_throneNode iC_saidWorth iC_unit rC_kind rC_parts rC_partNodes rC_weights rC_weightSums rC_toldWorths rC_steps rC_below rC_above rC_unsureWords rC_unsureWorths), (arI rC_kind kC_kind 18 fC_kind), (arI rC_parts kC_parts 18 fC_parts), (arI rC_partNodes kC_partNodes 72 fC_partNodes), (arI rC_weights kC_weights 72 fC_weights), (arI rC_weightSums kC_weightSums 18 fC_weightSums), (oc5 oS rS_worths rS_order rS_left), (arI rS_worths kS_worths 18 fS_worths), (oc4 oL rL_values rL_supposed), (arI rL_values kL_values 18 f_5637), (arI rL_supposed kL_supposed 18 f_5638)] H → va_D A [(oc6 oK oR oC oS oT rK_images iK_imageCount oA oH oL x_5630 iK_latestFault iK_latestPlace), (oc1 oC iC_nodes iC_words iC_chances iC_unsures iC_slips iC_throneNode iC_saidWorth iC_unit rC_kind rC_parts rC_partNodes rC_weights rC_weightSums rC_toldWorths rC_steps rC_below rC_above rC_unsureWords rC_unsureWorths), (arI rC_kind kC_kind 18 fC_kind), (arI rC_parts kC_parts 18 fC_parts), (arI rC_partNodes kC_partNodes 72 fC_partNodes), (arI rC_weights kC_weights 72 fC_weights), (arI rC_weightSums kC_weightSums 18 fC_weightSums), (oc5 oS rS_worths rS_order rS_left), (arI rS_worths kS_worths 18 fS_worths), (oc4 oL rL_values rL_supposed), (arI rL_values kL_values 18 f_5637), (arI rL_supposed kL_supposed 18 f_5638)] → va_S A s.heap H locs → lv_has ls 5 [(3, .int z_5634), (2, .int z_5635), (1, .int z_5636), (0, .ref oK)] → W p l e (headSpec (Cond.code yX6_pivot cX6_pivot 5 (some .int) :: wG) ({ frames := 6, cells := 0, slots := 0, locals := 147 })).room s m ([.ref oK] : List Value).toArray below meth c H locs 0 0 (MQ below (va_Qi (fun (r : Int32) (u : Nat) => (True ∧ True) ∧ r = Int32.ofNat u) (fun (u : Nat) (t : State) => ∃ (niK_refusal : Int32) (nfL_values : Nat → Int32) (nfL_supposed : Nat → Int32), (PX6_pivot iC_nodes iC_throneNode iC_unit fC_kind fC_parts fC_partNodes fC_weights fC_weightSums fS_worths fL_values fL_supposed = (Int32.ofNat u, niK_refusal, nfL_values, nfL_supposed)) ∧ Bw dC dI A [(oc6 oK oR oC oS oT rK_images iK_imageCount oA oH oL niK_refusal iK_latestFault iK_latestPlace), (oc1 oC iC_nodes iC_words iC_chances iC_unsures iC_slips iC_throneNode iC_saidWorth iC_unit rC_kind rC_parts rC_partNodes rC_weights rC_weightSums rC_toldWorths rC_steps rC_below rC_above rC_unsureWords rC_unsureWorths), (arI rC_kind kC_kind 18 fC_kind), (arI rC_parts kC_parts 18 fC_parts), (arI rC_partNodes kC_partNodes 72 fC_partNodes), (arI rC_weights kC_weights 72 fC_weights), (arI rC_weightSums kC_weightSums 18 fC_weightSums), (oc5 oS rS_worths rS_order rS_left), (arI rS_worths kS_worths 18 fS_worths), (oc4 oL rL_values rL_supposed), (arI rL_values kL_values 18 nfL_values), (arI rL_supposed kL_supposed 18 nfL_supposed)] [(kC_kind, .int), (kC_parts, .int), (kC_partNodes, .int), (kC_weights, .int), (kC_weightSums, .int), (kS_worths, .int), (kL_values, .int), (kL_supposed, .int)] t) A) ([.ref oK] : List Value).toArray s 0 0 A) (F0 m 16 ls []) := by
      intro n_5639
      induction n_5639 with
      | zero => intro z_5634 z_5635 z_5636 f_5637 f_5638 H locs ls hi0_n_5639 hm; exact absurd hm (Nat.not_lt_zero _)
      | succ n_5639 ih_n_5639 =>
        intro z_5634 z_5635 z_5636 f_5637 f_5638 H locs ls hi0_n_5639 hm_n_5639 hG hP hD hS hl
        have hG := hG.trans (HX6_pivot_0_eq _ _ _ _ _ _ _ _ _ _ _ _ _ _ _ _)
        have rg_z_5634 := fb_rng z_5634
        have rg_z_5635 := fb_rng z_5635
        have rg_z_5636 := fb_rng z_5636
        refine lv_iload_n hx hb dX6_pivot_16 rfl (lv_at hl 0 rfl) ?_
        refine lv_aload_n hx hb dX6_pivot_17 rfl (lv_at hl 3 rfl) ?_
        refine va_get (D := (dC, dI)) (ci := 6) (v := .ref oC) (C := RX6) (T := TX6) (N := 12) hx hb hts inX6 hown hK hP 0 rfl rfl 1 (by decide) (hts _ wd_20) (fun _ h9 => h9) rfl dX6_pivot_18 ?_
        refine va_get (D := (dC, dI)) (ci := 1) (v := .int iC_nodes) (C := RX1) (T := TX1) (N := 19) hx hb hts inX1 hown hK hP 1 rfl rfl 0 (by decide) (hts _ wd_196) (fun _ h9 => h9) rfl dX6_pivot_21 ?_
        refine lv_icmp_ge (tgt := 77) hx hb dX6_pivot_24 (by decide) (fun c_5640 => ?_) (fun c_5640 => ?_)
        · skip
          have hG := hG.trans (if_pos c_5640)
          have gc_5640 := ti_le c_5640 rfl rfl
          refine lv_iload_n hx hb dX6_pivot_77 rfl (lv_at hl 2 rfl) ?_
          exact wq_i hx hb hr (cI z_5636) ⟨⟨trivial, trivial⟩, (cI_of z_5636)⟩ (fun t ht hW => ⟨x_5630, f_5637, f_5638, (cI_tup hG), Bw.to hP hD hK ht hW⟩) hS dX6_pivot_78 hlocks
        · skip
          have hG := hG.trans (if_neg c_5640)
          have gc_5640 := ti_nle c_5640 rfl rfl
          refine lv_aload_n hx hb dX6_pivot_27 rfl (lv_at hl 3 rfl) ?_
          refine va_get (D := (dC, dI)) (ci := 6) (v := .ref oC) (C := RX6) (T := TX6) (N := 12) hx hb hts inX6 hown hK hP 0 rfl rfl 1 (by decide) (hts _ wd_20) (fun _ h9 => h9) rfl dX6_pivot_28 ?_
          refine va_get (D := (dC, dI)) (ci := 1) (v := .ref rC_kind) (C := RX1) (T := TX1) (N := 19) hx hb hts inX1 hown hK hP 1 rfl rfl 8 (by decide) (hts _ wd_530) (fun _ h9 => h9) rfl dX6_pivot_31 ?_
          refine lv_iload_n hx hb dX6_pivot_34 rfl (lv_at hl 0 rfl) ?_
          refine va_iald hx hb hK hP 2 0 rfl rfl (ti_in rfl hi0_n_5639.1 (om_97cd4a7c b_iC_nodes.2 gc_5640)) dX6_pivot_35 ?_
          refine lv_topi (fun x_5641 ex_5641 => ?_)
          have hG := hG.trans (lt_eq ex_5641)
          have rg_x_5641 := fb_rng x_5641
          have kx_5641 : (fC_kind z_5634.toNatClampNeg).toInt = x_5641.toInt := by rw [ex_5641]
          refine lv_if_ne (tgt := 47) hx hb dX6_pivot_36 (by decide) (fun c_5642 => ?_) (fun c_5642 => ?_)
          · skip
            have hG := hG.trans (if_neg c_5642)
            have gc_5642 := ti_ne c_5642 rfl kc_0
            refine lv_bipush (v := (-2)) hx hb dX6_pivot_47 (by decide) ?_
            refine lv_istore (lv' := [(4, .int (-2)), (3, .int z_5634), (2, .int z_5635), (1, .int z_5636), (0, .ref oK)]) hx hb dX6_pivot_49 hl (by decide) rfl (fun ls hl => ?_)
            refine lv_iload hx hb dX6_pivot_51 (lv_at hl 0 rfl) ?_
            refine lv_if_lt (tgt := 71) hx hb dX6_pivot_53 (by decide) (fun _ => ?_) (fun c => absurd c (by decide))
            obtain ⟨x_5644, ex_5644⟩ : ∃ z : Int32, z = z_5634 + Int32.ofInt 1 := ⟨_, rfl⟩
            have hG := hG.trans (lt_eq ex_5644)
            have vx_5644 : x_5644.toInt = z_5634.toInt + 1 := ti_add (y := 1) ex_5644 rfl kc_1 (om_4e4fce7e hi0_n_5639.1) (om_a32d6481 b_iC_nodes.2 gc_5640)
            refine lv_iinc (v := x_5644) (lv' := [(3, .int x_5644), (4, .int (-2)), (2, .int z_5635), (1, .int z_5636), (0, .ref oK)]) hx hb dX6_pivot_71 hl (k := 1) rfl ex_5644.symm (by decide) rfl (fun ls hl => ?_)
            refine lv_goto (tgt := 16) hx hb dX6_pivot_74 (by decide) ?_
            exact ih_n_5639 x_5644 z_5635 z_5636 f_5637 f_5638 _ _ _  ⟨(om_83b90de5 hi0_n_5639.1 vx_5644), (om_ed8867da b_iC_nodes.2 gc_5640 vx_5644)⟩ (ms_lt hm_n_5639 (om_b9393183 vx_5644) (om_1d9fa7fb b_iC_nodes.2 gc_5640)) hG hP hD hS (lv_sub hl [0, 2, 3, 4] rfl)
          · skip
            have hG := hG.trans (if_pos c_5642)
            have gc_5642 := ti_eq c_5642 rfl kc_0
            refine lv_aload_n hx hb dX6_pivot_39 rfl (lv_at hl 3 rfl) ?_
            refine lv_iload_n hx hb dX6_pivot_40 rfl (lv_at hl 0 rfl) ?_
            have hFc := va_freeI hD hS hA
            refine va_calli (va_runV (As := [.int z_5634]) (rest := []) ⟨hx, hb, hml, hown, hts⟩ (tX6_leastTurn l dC dI _ oK oR oC oS oT rK_images iK_imageCount oA oH oL x_5630 iK_latestFault iK_latestPlace iC_nodes iC_words iC_chances iC_unsures iC_slips iC_throneNode iC_saidWorth iC_unit rC_kind fC_kind kC_kind rC_parts fC_parts kC_parts rC_partNodes fC_partNodes kC_partNodes rC_weights fC_weights kC_weights rC_weightSums fC_weightSums kC_weightSums rC_toldWorths rC_steps rC_below rC_above rC_unsureWords rC_unsureWorths rS_worths fS_worths kS_worths rS_order rS_left rL_values f_5637 kL_values rL_supposed f_5638 kL_supposed z_5634 b_iK_imageCount b_iC_nodes b_iC_unsures b_iC_throneNode a_fC_parts a_fC_partNodes ⟨hi0_n_5639.1, (om_525c5d3e b_iC_nodes.2 gc_5640)⟩) (cwV 1 hts (wd_V wd_1121 wd_1122 wd_1123 wd_2 (wd_c wd_1124)) rfl rfl rfl dv_yX6_leastTurn_1 ⟨Nat.le_of_ble_eq_true rfl, Nat.le_of_ble_eq_true rfl⟩) ⟨Pw.fb, recvX6 hK hP (q0 := 0) rfl, fun U hU hW => Pw.to hP hD hK hE hS hFc hU hW⟩ rfl rfl hl.1 rfl (lv_room (Nat.le_of_ble_eq_true rfl)) dX6_pivot_41 ⟨Nat.le_of_ble_eq_true rfl, Nat.le_of_ble_eq_true rfl⟩) hS (fun q _ h => hFc q h) hFc (fun r u t H locs ht hvm hw hB hz1 hk1 hS => ?_)
            have hru9 := hw.2
            have hw := hw.1
            refine ex_2_1 hB (fun f_5645 f_5646 e_f_5645_0 hB => ?_)
            obtain ⟨hP, hD⟩ := Bw.goA (ws' := [(oc6 oK oR oC oS oT rK_images iK_imageCount oA oH oL x_5630 iK_latestFault iK_latestPlace), (oc1 oC iC_nodes iC_words iC_chances iC_unsures iC_slips iC_throneNode iC_saidWorth iC_unit rC_kind rC_parts rC_partNodes rC_weights rC_weightSums rC_toldWorths rC_steps rC_below rC_above rC_unsureWords rC_unsureWorths), (arI rC_kind kC_kind 18 fC_kind), (arI rC_parts kC_parts 18 fC_parts), (arI rC_partNodes kC_partNodes 72 fC_partNodes), (arI rC_weights kC_weights 72 fC_weights), (arI rC_weightSums kC_weightSums 18 fC_weightSums), (oc5 oS rS_worths rS_order rS_left), (arI rS_worths kS_worths 18 fS_worths), (oc4 oL rL_values rL_supposed), (arI rL_values kL_values 18 f_5645), (arI rL_supposed kL_supposed 18 f_5646)]) hB rfl ht hFc rfl
            clear hz1 hk1 hvm ht hB
            rw [← hru9] at e_f_5645_0
            obtain ⟨x_5647, rfl⟩ : ∃ z, z = r := ⟨_, rfl⟩
            have hG := hG.trans (un3_eq e_f_5645_0)
            have rg_x_5647 := fb_rng x_5647
            refine lv_goto (tgt := 49) hx hb dX6_pivot_44 (by decide) ?_
            refine lv_istore (lv' := [(4, .int x_5647), (3, .int z_5634), (2, .int z_5635), (1, .int z_5636), (0, .ref oK)]) hx hb dX6_pivot_49 hl (by decide) rfl (fun ls hl => ?_)
            refine lv_iload hx hb dX6_pivot_51 (lv_at hl 0 rfl) ?_
            refine lv_if_lt (tgt := 71) hx hb dX6_pivot_53 (by decide) (fun c_5648 => ?_) (fun c_5648 => ?_)
            · skip
              have hG := hG.trans (if_pos c_5648)
              have gc_5648 := ti_lt c_5648 rfl kc_0
              obtain ⟨x_5649, ex_5649⟩ : ∃ z : Int32, z = z_5634 + Int32.ofInt 1 := ⟨_, rfl⟩
              have hG := hG.trans (lt_eq ex_5649)
              have vx_5649 : x_5649.toInt = z_5634.toInt + 1 := ti_add (y := 1) ex_5649 rfl kc_1 (om_4e4fce7e hi0_n_5639.1) (om_a32d6481 b_iC_nodes.2 gc_5640)
              refine lv_iinc (v := x_5649) (lv' := [(3, .int x_5649), (4, .int x_5647), (2, .int z_5635), (1, .int z_5636), (0, .ref oK)]) hx hb dX6_pivot_71 hl (k := 1) rfl ex_5649.symm (by decide) rfl (fun ls hl => ?_)
              refine lv_goto (tgt := 16) hx hb dX6_pivot_74 (by decide) ?_
              exact ih_n_5639 x_5649 z_5635 z_5636 f_5645 f_5646 _ _ _  ⟨(om_83b90de5 hi0_n_5639.1 vx_5649), (om_ed8867da b_iC_nodes.2 gc_5640 vx_5649)⟩ (ms_lt hm_n_5639 (om_b9393183 vx_5649) (om_1d9fa7fb b_iC_nodes.2 gc_5640)) hG hP hD hS (lv_sub hl [0, 2, 3, 4] rfl)
            · skip
              have hG := hG.trans (if_neg c_5648)
              have gc_5648 := ti_nlt c_5648 rfl kc_0
              refine lv_iload_n hx hb dX6_pivot_56 rfl (lv_at hl 3 rfl) ?_
              refine lv_if_lt (tgt := 66) hx hb dX6_pivot_57 (by decide) (fun c_5650 => ?_) (fun c_5650 => ?_)
              · skip
                have hG := hG.trans (if_pos c_5650)
                have gc_5650 := ti_lt c_5650 rfl kc_0
                refine lv_iload_n hx hb dX6_pivot_66 rfl (lv_at hl 1 rfl) ?_
                refine lv_istore_n (lv' := [(1, .int z_5634), (4, .int x_5647), (3, .int z_5634), (2, .int z_5635), (0, .ref oK)]) hx hb dX6_pivot_67 rfl hl (by decide) rfl (fun ls hl => ?_)
                refine lv_iload hx hb dX6_pivot_68 (lv_at hl 1 rfl) ?_
                refine lv_istore_n (lv' := [(2, .int x_5647), (1, .int z_5634), (4, .int x_5647), (3, .int z_5634), (0, .ref oK)]) hx hb dX6_pivot_70 rfl hl (by decide) rfl (fun ls hl => ?_)
                obtain ⟨x_5651, ex_5651⟩ : ∃ z : Int32, z = z_5634 + Int32.ofInt 1 := ⟨_, rfl⟩
                have hG := hG.trans (lt_eq ex_5651)
                have vx_5651 : x_5651.toInt = z_5634.toInt + 1 := ti_add (y := 1) ex_5651 rfl kc_1 (om_4e4fce7e hi0_n_5639.1) (om_a32d6481 b_iC_nodes.2 gc_5640)
                refine lv_iinc (v := x_5651) (lv' := [(3, .int x_5651), (2, .int x_5647), (1, .int z_5634), (4, .int x_5647), (0, .ref oK)]) hx hb dX6_pivot_71 hl (k := 3) rfl ex_5651.symm (by decide) rfl (fun ls hl => ?_)
                refine lv_goto (tgt := 16) hx hb dX6_pivot_74 (by decide) ?_
                exact ih_n_5639 x_5651 x_5647 z_5634 f_5645 f_5646 _ _ _  ⟨(om_83b90de5 hi0_n_5639.1 vx_5651), (om_ed8867da b_iC_nodes.2 gc_5640 vx_5651)⟩ (ms_lt hm_n_5639 (om_b9393183 vx_5651) (om_1d9fa7fb b_iC_nodes.2 gc_5640)) hG hP hD hS (lv_sub hl [0, 1, 2, 4] rfl)
              · skip
                have hG := hG.trans (if_neg c_5650)
                have gc_5650 := ti_nlt c_5650 rfl kc_0
                refine lv_iload hx hb dX6_pivot_60 (lv_at hl 0 rfl) ?_
                refine lv_iload_n hx hb dX6_pivot_62 rfl (lv_at hl 2 rfl) ?_
                refine lv_icmp_ge (tgt := 71) hx hb dX6_pivot_63 (by decide) (fun c_5652 => ?_) (fun c_5652 => ?_)
                · skip
                  have hG := hG.trans (if_pos c_5652)
                  have gc_5652 := ti_le c_5652 rfl rfl
                  obtain ⟨x_5653, ex_5653⟩ : ∃ z : Int32, z = z_5634 + Int32.ofInt 1 := ⟨_, rfl⟩
                  have hG := hG.trans (lt_eq ex_5653)
                  have vx_5653 : x_5653.toInt = z_5634.toInt + 1 := ti_add (y := 1) ex_5653 rfl kc_1 (om_4e4fce7e hi0_n_5639.1) (om_a32d6481 b_iC_nodes.2 gc_5640)
                  refine lv_iinc (v := x_5653) (lv' := [(3, .int x_5653), (4, .int x_5647), (2, .int z_5635), (1, .int z_5636), (0, .ref oK)]) hx hb dX6_pivot_71 hl (k := 1) rfl ex_5653.symm (by decide) rfl (fun ls hl => ?_)
                  refine lv_goto (tgt := 16) hx hb dX6_pivot_74 (by decide) ?_
                  exact ih_n_5639 x_5653 z_5635 z_5636 f_5645 f_5646 _ _ _  ⟨(om_83b90de5 hi0_n_5639.1 vx_5653), (om_ed8867da b_iC_nodes.2 gc_5640 vx_5653)⟩ (ms_lt hm_n_5639 (om_b9393183 vx_5653) (om_1d9fa7fb b_iC_nodes.2 gc_5640)) hG hP hD hS (lv_sub hl [0, 2, 3, 4] rfl)
                · skip
                  have hG := hG.trans (if_neg c_5652)
                  have gc_5652 := ti_nle c_5652 rfl rfl
                  refine lv_iload_n hx hb dX6_pivot_66 rfl (lv_at hl 1 rfl) ?_
                  refine lv_istore_n (lv' := [(1, .int z_5634), (4, .int x_5647), (3, .int z_5634), (2, .int z_5635), (0, .ref oK)]) hx hb dX6_pivot_67 rfl hl (by decide) rfl (fun ls hl => ?_)
                  refine lv_iload hx hb dX6_pivot_68 (lv_at hl 1 rfl) ?_
                  refine lv_istore_n (lv' := [(2, .int x_5647), (1, .int z_5634), (4, .int x_5647), (3, .int z_5634), (0, .ref oK)]) hx hb dX6_pivot_70 rfl hl (by decide) rfl (fun ls hl => ?_)
                  obtain ⟨x_5654, ex_5654⟩ : ∃ z : Int32, z = z_5634 + Int32.ofInt 1 := ⟨_, rfl⟩
                  have hG := hG.trans (lt_eq ex_5654)
                  have vx_5654 : x_5654.toInt = z_5634.toInt + 1 := ti_add (y := 1) ex_5654 rfl kc_1 (om_4e4fce7e hi0_n_5639.1) (om_a32d6481 b_iC_nodes.2 gc_5640)
                  refine lv_iinc (v := x_5654) (lv' := [(3, .int x_5654), (2, .int x_5647), (1, .int z_5634), (4, .int x_5647), (0, .ref oK)]) hx hb dX6_pivot_71 hl (k := 3) rfl ex_5654.symm (by decide) rfl (fun ls hl => ?_)
                  refine lv_goto (tgt := 16) hx hb dX6_pivot_74 (by decide) ?_
                  exact ih_n_5639 x_5654 x_5647 z_5634 f_5645 f_5646 _ _ _  ⟨(om_83b90de5 hi0_n_5639.1 vx_5654), (om_ed8867da b_iC_nodes.2 gc_5640 vx_5654)⟩ (ms_lt hm_n_5639 (om_b9393183 vx_5654) (om_1d9fa7fb b_iC_nodes.2 gc_5640)) hG hP hD hS (lv_sub hl [0, 1, 2, 4] rfl)
    exact key_n_5639 (((2147483647 - (0 : Int32).toInt).toNat) + 1) 0 0 (-2) fL_values fL_supposed _ _ _  ⟨(om_b1de7dbe kc_0), (om_daf17c64 kc_0)⟩ (Nat.lt_add_one _) hG hP hD hS hl
  · skip
    have hG := hG.trans (un2_eq e_x_5630_0)
    have hG := hG.trans (if_neg (by decide))
    refine lv_if_eq (tgt := 9) hx hb dX6_pivot_4 (by decide) (fun c => absurd c (by decide)) (fun _ => ?_)
    refine lv_iconst (v := (-1)) hx hb dX6_pivot_7 (by decide) ?_
    exact wq_i hx hb hr (cI (-1)) ⟨⟨trivial, trivial⟩, (cI_of (-1))⟩ (fun t ht hW => ⟨x_5630, fL_values, fL_supposed, (cI_tup hG), Bw.to hP hD hK ht hW⟩) hS dX6_pivot_8 hlocks
set_option maxHeartbeats 4000000 in
set_option maxRecDepth 100000 in
theorem tX6_fittingSets (l : Launch) (dC : Nat → ClassId) (dI : Nat → Nat → Nat) (sz : Nat) (oK : Nat) (oR : Nat) (oC : Nat) (oS : Nat) (oT : Nat) (rK_images : Nat) (iK_imageCount : Int32) (oA : Nat) (oH : Nat) (oL : Nat) (iK_refusal : Int32) (iK_latestFault : Int32) (iK_latestPlace : Int32) (iC_nodes : Int32) (iC_words : Int32) (iC_chances : Int32) (iC_unsures : Int32) (iC_slips : Int32) (iC_throneNode : Int32) (iC_saidWorth : Int32) (iC_unit : Int32) (rC_kind : Nat) (fC_kind : Nat → Int32) (kC_kind : ClassId) (rC_parts : Nat) (fC_parts : Nat → Int32) (kC_parts : ClassId) (rC_partNodes : Nat) (fC_partNodes : Nat → Int32) (kC_partNodes : ClassId) (rC_weights : Nat) (fC_weights : Nat → Int32) (kC_weights : ClassId) (rC_weightSums : Nat) (fC_weightSums : Nat → Int32) (kC_weightSums : ClassId) (rC_toldWorths : Nat) (fC_toldWorths : Nat → Int32) (kC_toldWorths : ClassId) (rC_steps : Nat) (rC_below : Nat) (rC_above : Nat) (rC_unsureWords : Nat) (fC_unsureWords : Nat → Int32) (kC_unsureWords : ClassId) (rC_unsureWorths : Nat) (fC_unsureWorths : Nat → Int32) (kC_unsureWorths : ClassId) (rL_values : Nat) (fL_values : Nat → Int32) (kL_values : ClassId) (rL_supposed : Nat) (fL_supposed : Nat → Int32) (kL_supposed : ClassId) (b_iK_imageCount : 0 ≤ iK_imageCount.toInt ∧ iK_imageCount.toInt ≤ 3) (b_iC_nodes : 0 ≤ iC_nodes.toInt ∧ iC_nodes.toInt ≤ 18) (b_iC_unsures : 0 ≤ iC_unsures.toInt ∧ iC_unsures.toInt ≤ 4) (b_iC_throneNode : (-1) ≤ iC_throneNode.toInt ∧ iC_throneNode.toInt ≤ 17) (a_fC_parts : ∀ j : Nat, j < 18 → 0 ≤ (fC_parts j).toInt ∧ (fC_parts j).toInt ≤ 4) (a_fC_partNodes : ∀ j : Nat, j < 72 → 0 ≤ (fC_partNodes j).toInt ∧ (fC_partNodes j).toInt ≤ 17) (a_fC_unsureWords : ∀ j : Nat, j < 4 → 0 ≤ (fC_unsureWords j).toInt ∧ (fC_unsureWords j).toInt ≤ 17)  : Met l yX6_fittingSets (Cond.code yX6_fittingSets cX6_fittingSets 4 (some .int) :: wG) ({ frames := 4, cells := 0, slots := 0, locals := 95 }) (va_Pc [.ref oK] (Pw dC dI sz [(oc6 oK oR oC oS oT rK_images iK_imageCount oA oH oL iK_refusal iK_latestFault iK_latestPlace), (oc1 oC iC_nodes iC_words iC_chances iC_unsures iC_slips iC_throneNode iC_saidWorth iC_unit rC_kind rC_parts rC_partNodes rC_weights rC_weightSums rC_toldWorths rC_steps rC_below rC_above rC_unsureWords rC_unsureWorths), (arI rC_kind kC_kind 18 fC_kind), (arI rC_parts kC_parts 18 fC_parts), (arI rC_partNodes kC_partNodes 72 fC_partNodes), (arI rC_weights kC_weights 72 fC_weights), (arI rC_weightSums kC_weightSums 18 fC_weightSums), (arI rC_toldWorths kC_toldWorths 18 fC_toldWorths), (arI rC_unsureWords kC_unsureWords 4 fC_unsureWords), (arI rC_unsureWorths kC_unsureWorths 4 fC_unsureWorths), (oc4 oL rL_values rL_supposed), (arI rL_values kL_values 18 fL_values), (arI rL_supposed kL_supposed 18 fL_supposed)] [(kC_kind, .int), (kC_parts, .int), (kC_partNodes, .int), (kC_weights, .int), (kC_weightSums, .int), (kC_toldWorths, .int), (kC_unsureWords, .int), (kC_unsureWorths, .int), (kL_values, .int), (kL_supposed, .int)])) (va_Qi (fun (r : Int32) (u : Nat) => (True ∧ True) ∧ r = Int32.ofNat u) (fun (u : Nat) (t : State) => ∃ (nfL_values : Nat → Int32) (nfL_supposed : Nat → Int32), (PX6_fittingSets iC_nodes iC_unsures iC_throneNode iC_saidWorth iC_unit fC_kind fC_parts fC_partNodes fC_weights fC_weightSums fC_toldWorths fC_unsureWords fC_unsureWorths fL_values fL_supposed = (Int32.ofNat u, nfL_values, nfL_supposed)) ∧ Bw dC dI (va_A [(oc6 oK oR oC oS oT rK_images iK_imageCount oA oH oL iK_refusal iK_latestFault iK_latestPlace), (oc1 oC iC_nodes iC_words iC_chances iC_unsures iC_slips iC_throneNode iC_saidWorth iC_unit rC_kind rC_parts rC_partNodes rC_weights rC_weightSums rC_toldWorths rC_steps rC_below rC_above rC_unsureWords rC_unsureWorths), (arI rC_kind kC_kind 18 fC_kind), (arI rC_parts kC_parts 18 fC_parts), (arI rC_partNodes kC_partNodes 72 fC_partNodes), (arI rC_weights kC_weights 72 fC_weights), (arI rC_weightSums kC_weightSums 18 fC_weightSums), (arI rC_toldWorths kC_toldWorths 18 fC_toldWorths), (arI rC_unsureWords kC_unsureWords 4 fC_unsureWords), (arI rC_unsureWorths kC_unsureWorths 4 fC_unsureWorths), (oc4 oL rL_values rL_supposed), (arI rL_values kL_values 18 fL_values), (arI rL_supposed kL_supposed 18 fL_supposed)] sz) [(oc6 oK oR oC oS oT rK_images iK_imageCount oA oH oL iK_refusal iK_latestFault iK_latestPlace), (oc1 oC iC_nodes iC_words iC_chances iC_unsures iC_slips iC_throneNode iC_saidWorth iC_unit rC_kind rC_parts rC_partNodes rC_weights rC_weightSums rC_toldWorths rC_steps rC_below rC_above rC_unsureWords rC_unsureWorths), (arI rC_kind kC_kind 18 fC_kind), (arI rC_parts kC_parts 18 fC_parts), (arI rC_partNodes kC_partNodes 72 fC_partNodes), (arI rC_weights kC_weights 72 fC_weights), (arI rC_weightSums kC_weightSums 18 fC_weightSums), (arI rC_toldWorths kC_toldWorths 18 fC_toldWorths), (arI rC_unsureWords kC_unsureWords 4 fC_unsureWords), (arI rC_unsureWorths kC_unsureWorths 4 fC_unsureWorths), (oc4 oL rL_values rL_supposed), (arI rL_values kL_values 18 nfL_values), (arI rL_supposed kL_supposed 18 nfL_supposed)] [(kC_kind, .int), (kC_parts, .int), (kC_partNodes, .int), (kC_weights, .int), (kC_weightSums, .int), (kC_toldWorths, .int), (kC_unsureWords, .int), (kC_unsureWorths, .int), (kL_values, .int), (kL_supposed, .int)] t) (va_A [(oc6 oK oR oC oS oT rK_images iK_imageCount oA oH oL iK_refusal iK_latestFault iK_latestPlace), (oc1 oC iC_nodes iC_words iC_chances iC_unsures iC_slips iC_throneNode iC_saidWorth iC_unit rC_kind rC_parts rC_partNodes rC_weights rC_weightSums rC_toldWorths rC_steps rC_below rC_above rC_unsureWords rC_unsureWorths), (arI rC_kind kC_kind 18 fC_kind), (arI rC_parts kC_parts 18 fC_parts), (arI rC_partNodes kC_partNodes 72 fC_partNodes), (arI rC_weights kC_weights 72 fC_weights), (arI rC_weightSums kC_weightSums 18 fC_weightSums), (arI rC_toldWorths kC_toldWorths 18 fC_toldWorths), (arI rC_unsureWords kC_unsureWords 4 fC_unsureWords), (arI rC_unsureWorths kC_unsureWorths 4 fC_unsureWorths), (oc4 oL rL_values rL_supposed), (arI rL_values kL_values 18 fL_values), (arI rL_supposed kL_supposed 18 fL_supposed)] sz)) 0 0 (va_A [(oc6 oK oR oC oS oT rK_images iK_imageCount oA oH oL iK_refusal iK_latestFault iK_latestPlace), (oc1 oC iC_nodes iC_words iC_chances iC_unsures iC_slips iC_throneNode iC_saidWorth iC_unit rC_kind rC_parts rC_partNodes rC_weights rC_weightSums rC_toldWorths rC_steps rC_below rC_above rC_unsureWords rC_unsureWorths), (arI rC_kind kC_kind 18 fC_kind), (arI rC_parts kC_parts 18 fC_parts), (arI rC_partNodes kC_partNodes 72 fC_partNodes), (arI rC_weights kC_weights 72 fC_weights), (arI rC_weightSums kC_weightSums 18 fC_weightSums), (arI rC_toldWorths kC_toldWorths 18 fC_toldWorths), (arI rC_unsureWords kC_unsureWords 4 fC_unsureWords), (arI rC_unsureWorths kC_unsureWorths 4 fC_unsureWorths), (oc4 oL rL_values rL_supposed), (arI rL_values kL_values 18 fL_values), (arI rL_supposed kL_supposed 18 fL_supposed)] sz) := by
  refine Met.ofW (cc := cX6_fittingSets) (maxL := 4) (ret := (some .int)) pnX6 rfl ?_
  intro p e s m args below meth c s₁ B hml hv
  obtain ⟨rfl, hsz, hP, hK, hD0, hE⟩ := hv
  have hx := B.exec
  have hb := B.bytes
  have hr := B.returns
  have hts : ∀ w ∈ wG, w.before ([.ref oK] : List Value).toArray s = true := fun w h => atoms_spec (ws := Cond.code yX6_fittingSets cX6_fittingSets 4 (some .int) :: wG) B.pre w (List.mem_cons_of_mem _ h)
  have hown : s.vm.findClass RX6 = some m.cls := own_of B.named rfl
  have hlocks := B.notSynchronized
  subst hsz
  have hD := hD0.self (sz := s.heap.size)
  generalize hAe : va_A [(oc6 oK oR oC oS oT rK_images iK_imageCount oA oH oL iK_refusal iK_latestFault iK_latestPlace), (oc1 oC iC_nodes iC_words iC_chances iC_unsures iC_slips iC_throneNode iC_saidWorth iC_unit rC_kind rC_parts rC_partNodes rC_weights rC_weightSums rC_toldWorths rC_steps rC_below rC_above rC_unsureWords rC_unsureWorths), (arI rC_kind kC_kind 18 fC_kind), (arI rC_parts kC_parts 18 fC_parts), (arI rC_partNodes kC_partNodes 72 fC_partNodes), (arI rC_weights kC_weights 72 fC_weights), (arI rC_weightSums kC_weightSums 18 fC_weightSums), (arI rC_toldWorths kC_toldWorths 18 fC_toldWorths), (arI rC_unsureWords kC_unsureWords 4 fC_unsureWords), (arI rC_unsureWorths kC_unsureWorths 4 fC_unsureWorths), (oc4 oL rL_values rL_supposed), (arI rL_values kL_values 18 fL_values), (arI rL_supposed kL_supposed 18 fL_supposed)] s.heap.size = A at hD hE ⊢
  have hA : ∀ q : Nat, s.heap.size ≤ q → A q := fun q h => by rw [← hAe]; exact Or.inr h
  have hS : va_S A s.heap s.heap [] := va_S.rf
  have hl := lv_entry ([.ref oK]) (n := 4) (Nat.le_of_ble_eq_true rfl)
  rw [lg_entry_eq]
  generalize (lg_sl ([.ref oK]) ++ List.replicate (4 - (lg_sl ([.ref oK])).length) Slot.unset).toArray = ls at hl ⊢
  have hl : lv_has ls 4 [(0, .ref oK)] := hl
  have hG := PX6_fittingSets_eq iC_nodes iC_unsures iC_throneNode iC_saidWorth iC_unit fC_kind fC_parts fC_partNodes fC_weights fC_weightSums fC_toldWorths fC_unsureWords fC_unsureWorths fL_values fL_supposed
  refine lv_iconst (v := 0) hx hb dX6_fittingSets_0 (by decide) ?_
  refine lv_istore_n (lv' := [(1, .int 0), (0, .ref oK)]) hx hb dX6_fittingSets_1 rfl hl (by decide) rfl (fun ls hl => ?_)
  refine lv_iconst (v := 0) hx hb dX6_fittingSets_2 (by decide) ?_
  refine lv_istore_n (lv' := [(2, .int 0), (1, .int 0), (0, .ref oK)]) hx hb dX6_fittingSets_3 rfl hl (by decide) rfl (fun ls hl => ?_)
  have hl := lv_sub hl (l' := [(2, .int 0), (1, .int 0), (0, .ref oK)]) [0, 1, 2] rfl
  have key_n_5691 : ∀ (n_5691 : Nat) (z_5687 : Int32) (z_5688 : Int32) (f_5689 : Nat → Int32) (f_5690 : Nat → Int32) (H : Heap) (locs : List Loc) (ls : Array Slot), (0 ≤ z_5687.toInt ∧ z_5687.toInt ≤ 2147483647) → (2147483647 - z_5687.toInt).toNat < n_5691 → (PX6_fittingSets iC_nodes iC_unsures iC_throneNode iC_saidWorth iC_unit fC_kind fC_parts fC_partNodes fC_weights fC_weightSums fC_toldWorths fC_unsureWords fC_unsureWorths fL_values fL_supposed = HX6_fittingSets_0 iC_nodes iC_unsures iC_throneNode iC_saidWorth iC_unit fC_kind fC_parts fC_partNodes fC_weights fC_weightSums fC_toldWorths fC_unsureWords fC_unsureWorths n_5691 z_5687 z_5688 f_5689 f_5690) → va_P (dC, dI) vwCl [(oc6 oK oR oC oS oT rK_images iK_imageCount oA oH oL iK_refusal iK_latestFault iK_latestPlace), (oc1 oC iC_nodes iC_words iC_chances iC_unsures iC_slips iC_throneNode iC_saidWorth iC_unit rC_kind rC_parts rC_partNodes rC_weights rC_weightSums rC_toldWorths rC_steps rC_below rC_above rC_unsureWords rC_unsureWorths), (arI rC_kind kC_kind 18 fC_kind), (arI rC_parts kC_parts 18 fC_parts), (arI rC_partNodes kC_partNodes 72 fC_partNodes), (arI rC_weights kC_weights 72 fC_weights), (arI rC_weightSums kC_weightSums 18 fC_weightSums), (arI rC_toldWorths kC_toldWorths 18 fC_toldWorths), (arI rC_unsureWords kC_unsureWords 4 fC_unsureWords), (arI rC_unsureWorths kC_unsureWorths 4 fC_unsureWorths), (oc4 oL rL_values rL_supposed), (arI rL_values kL_values 18 f_5689), (arI rL_supposed kL_supposed 18 f_5690)] H → va_D A [(oc6 oK oR oC oS oT rK_images iK_imageCount oA oH oL iK_refusal iK_latestFault iK_latestPlace), (oc1 oC iC_nodes iC_words iC_chances iC_unsures iC_slips iC_throneNode iC_saidWorth iC_unit rC_kind rC_parts rC_partNodes rC_weights rC_weightSums rC_toldWorths rC_steps rC_below rC_above rC_unsureWords rC_unsureWorths), (arI rC_kind kC_kind 18 fC_kind), (arI rC_parts kC_parts 18 fC_parts), (arI rC_partNodes kC_partNodes 72 fC_partNodes), (arI rC_weights kC_weights 72 fC_weights), (arI rC_weightSums kC_weightSums 18 fC_weightSums), (arI rC_toldWorths kC_toldWorths 18 fC_toldWorths), (arI rC_unsureWords kC_unsureWords 4 fC_unsureWords), (arI rC_unsureWorths kC_unsureWorths 4 fC_unsureWorths), (oc4 oL rL_values rL_supposed), (arI rL_values kL_values 18 f_5689), (arI rL_supposed kL_supposed 18 f_5690)] → va_S A s.heap H locs → lv_has ls 4 [(2, .int z_5687), (1, .int z_5688), (0, .ref oK)] → W p l e (headSpec (Cond.code yX6_fittingSets cX6_fittingSets 4 (some .int) :: wG) ({ frames := 4, cells := 0, slots := 0, locals := 95 })).room s m ([.ref oK] : List Value).toArray below meth c H locs 0 0 (MQ below (va_Qi (fun (r : Int32) (u : Nat) => (True ∧ True) ∧ r = Int32.ofNat u) (fun (u : Nat) (t : State) => ∃ (nfL_values : Nat → Int32) (nfL_supposed : Nat → Int32), (PX6_fittingSets iC_nodes iC_unsures iC_throneNode iC_saidWorth iC_unit fC_kind fC_parts fC_partNodes fC_weights fC_weightSums fC_toldWorths fC_unsureWords fC_unsureWorths fL_values fL_supposed = (Int32.ofNat u, nfL_values, nfL_supposed)) ∧ Bw dC dI A [(oc6 oK oR oC oS oT rK_images iK_imageCount oA oH oL iK_refusal iK_latestFault iK_latestPlace), (oc1 oC iC_nodes iC_words iC_chances iC_unsures iC_slips iC_throneNode iC_saidWorth iC_unit rC_kind rC_parts rC_partNodes rC_weights rC_weightSums rC_toldWorths rC_steps rC_below rC_above rC_unsureWords rC_unsureWorths), (arI rC_kind kC_kind 18 fC_kind), (arI rC_parts kC_parts 18 fC_parts), (arI rC_partNodes kC_partNodes 72 fC_partNodes), (arI rC_weights kC_weights 72 fC_weights), (arI rC_weightSums kC_weightSums 18 fC_weightSums), (arI rC_toldWorths kC_toldWorths 18 fC_toldWorths), (arI rC_unsureWords kC_unsureWords 4 fC_unsureWords), (arI rC_unsureWorths kC_unsureWorths 4 fC_unsureWorths), (oc4 oL rL_values rL_supposed), (arI rL_values kL_values 18 nfL_values), (arI rL_supposed kL_supposed 18 nfL_supposed)] [(kC_kind, .int), (kC_parts, .int), (kC_partNodes, .int), (kC_weights, .int), (kC_weightSums, .int), (kC_toldWorths, .int), (kC_unsureWords, .int), (kC_unsureWorths, .int), (kL_values, .int), (kL_supposed, .int)] t) A) ([.ref oK] : List Value).toArray s 0 0 A) (F0 m 4 ls []) := by
    intro n_5691
    induction n_5691 with
    | zero => intro z_5687 z_5688 f_5689 f_5690 H locs ls hi0_n_5691 hm; exact absurd hm (Nat.not_lt_zero _)
    | succ n_5691 ih_n_5691 =>
      intro z_5687 z_5688 f_5689 f_5690 H locs ls hi0_n_5691 hm_n_5691 hG hP hD hS hl
      have hG := hG.trans (HX6_fittingSets_0_eq _ _ _ _ _ _ _ _ _ _ _ _ _ _ _ _ _ _)
      have rg_z_5687 := fb_rng z_5687
      have rg_z_5688 := fb_rng z_5688
      refine lv_iload_n hx hb dX6_fittingSets_4 rfl (lv_at hl 0 rfl) ?_
      refine lv_aload_n hx hb dX6_fittingSets_5 rfl (lv_at hl 2 rfl) ?_
      refine va_get (D := (dC, dI)) (ci := 6) (v := .ref oC) (C := RX6) (T := TX6) (N := 12) hx hb hts inX6 hown hK hP 0 rfl rfl 1 (by decide) (hts _ wd_20) (fun _ h9 => h9) rfl dX6_fittingSets_6 ?_
      have hMs := ml_of hD [false, true, false, false, false, false, false, false, false, false, false, false, false] (wc := [(oc1 oC iC_nodes iC_words iC_chances iC_unsures iC_slips iC_throneNode iC_saidWorth iC_unit rC_kind rC_parts rC_partNodes rC_weights rC_weightSums rC_toldWorths rC_steps rC_below rC_above rC_unsureWords rC_unsureWorths)]) rfl
      have hFc := va_freeM hD hS hA _ hMs
      refine va_calli (va_runV (As := []) (rest := [.int z_5687]) ⟨hx, hb, hml, hown, hts⟩ (tX1_unsureSets l dC dI _ oC iC_nodes iC_words iC_chances iC_unsures iC_slips iC_throneNode iC_saidWorth iC_unit rC_kind rC_parts rC_partNodes rC_weights rC_weightSums rC_toldWorths rC_steps rC_below rC_above rC_unsureWords rC_unsureWorths b_iC_nodes b_iC_unsures b_iC_throneNode) (cwV 0 hts (wd_V wd_1165 wd_1166 wd_1167 wd_19 (wd_c wd_1168)) rfl rfl rfl dv_yX1_unsureSets_0 ⟨Nat.le_of_ble_eq_true rfl, Nat.le_of_ble_eq_true rfl⟩) ⟨Pw.fb, recvX1 hK hP (q0 := 1) rfl, fun U hU hW => Pw.to (hP.ms _ hMs) (hD.ms _ hMs) (hK.ms [false, false, false, false, false, false, false, false, false, false] rfl) hE hS hFc hU hW⟩ rfl rfl hl.1 rfl (lv_room (Nat.le_of_ble_eq_true rfl)) dX6_fittingSets_9 ⟨Nat.le_of_ble_eq_true rfl, Nat.le_of_ble_eq_true rfl⟩) hS (fun q _ h => hFc q h) hFc (fun r u t H locs ht hvm hw hB hz1 hk1 hS => ?_)
      have hru9 := hw.2
      have hw := hw.1
      obtain ⟨hP, hD⟩ := Bw.goN (ws' := [(oc6 oK oR oC oS oT rK_images iK_imageCount oA oH oL iK_refusal iK_latestFault iK_latestPlace), (oc1 oC iC_nodes iC_words iC_chances iC_unsures iC_slips iC_throneNode iC_saidWorth iC_unit rC_kind rC_parts rC_partNodes rC_weights rC_weightSums rC_toldWorths rC_steps rC_below rC_above rC_unsureWords rC_unsureWorths), (arI rC_kind kC_kind 18 fC_kind), (arI rC_parts kC_parts 18 fC_parts), (arI rC_partNodes kC_partNodes 72 fC_partNodes), (arI rC_weights kC_weights 72 fC_weights), (arI rC_weightSums kC_weightSums 18 fC_weightSums), (arI rC_toldWorths kC_toldWorths 18 fC_toldWorths), (arI rC_unsureWords kC_unsureWords 4 fC_unsureWords), (arI rC_unsureWorths kC_unsureWorths 4 fC_unsureWorths), (oc4 oL rL_values rL_supposed), (arI rL_values kL_values 18 f_5689), (arI rL_supposed kL_supposed 18 f_5690)]) hB rfl ht hP hD _ hMs hk1 hFc rfl
      clear hz1 hk1 hvm ht hB hMs
      obtain ⟨x_5692, rfl⟩ : ∃ z, z = r := ⟨_, rfl⟩
      have hG := hG.trans (lt_eq hru9.symm)
      have rg_x_5692 := fb_rng x_5692
      have ux_5692 := hw.2
      refine lv_icmp_ge (tgt := 78) hx hb dX6_fittingSets_12 (by decide) (fun c_5693 => ?_) (fun c_5693 => ?_)
      · skip
        have hG := hG.trans (if_pos c_5693)
        have gc_5693 := ti_le c_5693 rfl rfl
        refine lv_iload_n hx hb dX6_fittingSets_78 rfl (lv_at hl 1 rfl) ?_
        exact wq_i hx hb hr (cI z_5688) ⟨⟨trivial, trivial⟩, (cI_of z_5688)⟩ (fun t ht hW => ⟨f_5689, f_5690, (cI_tup hG), Bw.to hP hD hK ht hW⟩) hS dX6_fittingSets_79 hlocks
      · skip
        have hG := hG.trans (if_neg c_5693)
        have gc_5693 := ti_nle c_5693 rfl rfl
        refine lv_aload_n hx hb dX6_fittingSets_15 rfl (lv_at hl 2 rfl) ?_
        refine va_get (D := (dC, dI)) (ci := 6) (v := .ref oL) (C := RX6) (T := TX6) (N := 12) hx hb hts inX6 hown hK hP 0 rfl rfl 8 (by decide) (hts _ wd_38) (fun _ h9 => h9) rfl dX6_fittingSets_16 ?_
        refine lv_aload_n hx hb dX6_fittingSets_19 rfl (lv_at hl 2 rfl) ?_
        refine va_get (D := (dC, dI)) (ci := 6) (v := .ref oC) (C := RX6) (T := TX6) (N := 12) hx hb hts inX6 hown hK hP 0 rfl rfl 1 (by decide) (hts _ wd_20) (fun _ h9 => h9) rfl dX6_fittingSets_20 ?_
        refine lv_aload_n hx hb dX6_fittingSets_23 rfl (lv_at hl 2 rfl) ?_
        refine va_get (D := (dC, dI)) (ci := 6) (v := .ref oC) (C := RX6) (T := TX6) (N := 12) hx hb hts inX6 hown hK hP 0 rfl rfl 1 (by decide) (hts _ wd_20) (fun _ h9 => h9) rfl dX6_fittingSets_24 ?_
        refine va_get (D := (dC, dI)) (ci := 1) (v := .ref rC_toldWorths) (C := RX1) (T := TX1) (N := 19) hx hb hts inX1 hown hK hP 1 rfl rfl 13 (by decide) (hts _ wd_1163) (fun _ h9 => h9) rfl dX6_fittingSets_27 ?_
        refine lv_iload_n hx hb dX6_fittingSets_30 rfl (lv_at hl 0 rfl) ?_
        have hFc := va_free (wc := [(oc4 oL rL_values rL_supposed), (arI rL_values kL_values 18 f_5689), (arI rL_supposed kL_supposed 18 f_5690), (oc1 oC iC_nodes iC_words iC_chances iC_unsures iC_slips iC_throneNode iC_saidWorth iC_unit rC_kind rC_parts rC_partNodes rC_weights rC_weightSums rC_toldWorths rC_steps rC_below rC_above rC_unsureWords rC_unsureWorths), (arI rC_kind kC_kind 18 fC_kind), (arI rC_parts kC_parts 18 fC_parts), (arI rC_partNodes kC_partNodes 72 fC_partNodes), (arI rC_weights kC_weights 72 fC_weights), (arI rC_weightSums kC_weightSums 18 fC_weightSums), (arI rC_unsureWords kC_unsureWords 4 fC_unsureWords), (arI rC_unsureWorths kC_unsureWorths 4 fC_unsureWorths), (arI rC_toldWorths kC_toldWorths 18 fC_toldWorths)]) hD hS hA [10, 11, 12, 1, 2, 3, 4, 5, 6, 8, 9, 7] rfl
        refine va_calli (va_runV (As := [.ref oC, .ref rC_toldWorths, .int z_5687]) (rest := []) ⟨hx, hb, hml, hown, hts⟩ (tX4_throneByUnsure l dC dI _ oL rL_values f_5689 kL_values rL_supposed f_5690 kL_supposed oC iC_nodes iC_words iC_chances iC_unsures iC_slips iC_throneNode iC_saidWorth iC_unit rC_kind fC_kind kC_kind rC_parts fC_parts kC_parts rC_partNodes fC_partNodes kC_partNodes rC_weights fC_weights kC_weights rC_weightSums fC_weightSums kC_weightSums rC_toldWorths rC_steps rC_below rC_above rC_unsureWords fC_unsureWords kC_unsureWords rC_unsureWorths fC_unsureWorths kC_unsureWorths rC_toldWorths fC_toldWorths kC_toldWorths z_5687 b_iC_nodes b_iC_unsures b_iC_throneNode a_fC_parts a_fC_partNodes a_fC_unsureWords) (cwV 3 hts (wd_V wd_1169 wd_1170 wd_1171 wd_37 (wd_c wd_1172)) rfl rfl rfl dv_yX4_throneByUnsure_3 ⟨Nat.le_of_ble_eq_true rfl, Nat.le_of_ble_eq_true rfl⟩) ⟨Pw.fb, recvX4 hK hP (q0 := 10) rfl, fun U hU hW => Pw.to (hP.sub [10, 11, 12, 1, 2, 3, 4, 5, 6, 8, 9, 7] rfl) (hD.sub [10, 11, 12, 1, 2, 3, 4, 5, 6, 8, 9, 7] (by decide) rfl) (hK.sub [8, 9, 0, 1, 2, 3, 4, 6, 7, 5] rfl) hE hS hFc hU hW⟩ rfl rfl hl.1 rfl (lv_room (Nat.le_of_ble_eq_true rfl)) dX6_fittingSets_31 ⟨Nat.le_of_ble_eq_true rfl, Nat.le_of_ble_eq_true rfl⟩) hS (fun q _ h => hFc q h) hFc (fun r u t H locs ht hvm hw hB hz1 hk1 hS => ?_)
        have hru9 := hw.2
        have hw := hw.1
        refine ex_2_1 hB (fun f_5694 f_5695 e_f_5694_0 hB => ?_)
        obtain ⟨hP, hD, hK⟩ := Bw.go (ws' := [(oc6 oK oR oC oS oT rK_images iK_imageCount oA oH oL iK_refusal iK_latestFault iK_latestPlace), (oc4 oL rL_values rL_supposed), (arI rL_values kL_values 18 f_5694), (arI rL_supposed kL_supposed 18 f_5695), (oc1 oC iC_nodes iC_words iC_chances iC_unsures iC_slips iC_throneNode iC_saidWorth iC_unit rC_kind rC_parts rC_partNodes rC_weights rC_weightSums rC_toldWorths rC_steps rC_below rC_above rC_unsureWords rC_unsureWorths), (arI rC_kind kC_kind 18 fC_kind), (arI rC_parts kC_parts 18 fC_parts), (arI rC_partNodes kC_partNodes 72 fC_partNodes), (arI rC_weights kC_weights 72 fC_weights), (arI rC_weightSums kC_weightSums 18 fC_weightSums), (arI rC_unsureWords kC_unsureWords 4 fC_unsureWords), (arI rC_unsureWorths kC_unsureWorths 4 fC_unsureWorths), (arI rC_toldWorths kC_toldWorths 18 fC_toldWorths)]) (tys' := [(kL_values, .int), (kL_supposed, .int), (kC_kind, .int), (kC_parts, .int), (kC_partNodes, .int), (kC_weights, .int), (kC_weightSums, .int), (kC_unsureWords, .int), (kC_unsureWorths, .int), (kC_toldWorths, .int)]) hB rfl ht hvm hP hD hK [10, 11, 12, 1, 2, 3, 4, 5, 6, 8, 9, 7] [0] rfl (by decide) (by decide) [] hk1 hFc rfl rfl rfl
        clear hz1 hk1 hvm ht hB
        rw [← hru9] at e_f_5694_0
        obtain ⟨x_5696, rfl⟩ : ∃ z, z = r := ⟨_, rfl⟩
        have hG := hG.trans (un3_eq e_f_5694_0)
        have rg_x_5696 := fb_rng x_5696
        refine lv_istore_n (lv' := [(3, .int x_5696), (2, .int z_5687), (1, .int z_5688), (0, .ref oK)]) hx hb dX6_fittingSets_34 rfl hl (by decide) rfl (fun ls hl => ?_)
        refine lv_aload_n hx hb dX6_fittingSets_35 rfl (lv_at hl 3 rfl) ?_
        refine va_get (D := (dC, dI)) (ci := 6) (v := .ref oC) (C := RX6) (T := TX6) (N := 12) hx hb hts inX6 hown hK hP 0 rfl rfl 1 (by decide) (hts _ wd_20) (fun _ h9 => h9) rfl dX6_fittingSets_36 ?_
        refine va_get (D := (dC, dI)) (ci := 1) (v := .int iC_saidWorth) (C := RX1) (T := TX1) (N := 19) hx hb hts inX1 hown hK hP 4 rfl rfl 6 (by decide) (hts _ wd_1164) (fun _ h9 => h9) rfl dX6_fittingSets_39 ?_
        have rg_iC_saidWorth := fb_rng iC_saidWorth
        refine lv_if_lt (tgt := 66) hx hb dX6_fittingSets_42 (by decide) (fun c_5697 => ?_) (fun c_5697 => ?_)
        · skip
          have hG := hG.trans (if_pos c_5697)
          have gc_5697 := ti_lt c_5697 rfl kc_0
          refine lv_iload_n hx hb dX6_fittingSets_66 rfl (lv_at hl 2 rfl) ?_
          refine lv_iconst (v := 1) hx hb dX6_fittingSets_67 (by decide) ?_
          refine lv_iload_n hx hb dX6_fittingSets_68 rfl (lv_at hl 1 rfl) ?_
          refine lv_ishl hx hb dX6_fittingSets_69 ?_
          refine lv_topi (fun x_5698 ex_5698 => ?_)
          have hG := hG.trans (lt_eq ex_5698)
          have rg_x_5698 := fb_rng x_5698
          refine lv_ior hx hb dX6_fittingSets_70 ?_
          refine lv_topi (fun x_5699 ex_5699 => ?_)
          have hG := hG.trans (lt_eq ex_5699)
          have rg_x_5699 := fb_rng x_5699
          refine lv_istore_n (lv' := [(1, .int x_5699), (3, .int x_5696), (2, .int z_5687), (0, .ref oK)]) hx hb dX6_fittingSets_71 rfl hl (by decide) rfl (fun ls hl => ?_)
          obtain ⟨x_5700, ex_5700⟩ : ∃ z : Int32, z = z_5687 + Int32.ofInt 1 := ⟨_, rfl⟩
          have hG := hG.trans (lt_eq ex_5700)
          have vx_5700 : x_5700.toInt = z_5687.toInt + 1 := ti_add (y := 1) ex_5700 rfl kc_1 (om_4e4fce7e hi0_n_5691.1) (om_26fca3fc ux_5692.2 gc_5693)
          refine lv_iinc (v := x_5700) (lv' := [(2, .int x_5700), (1, .int x_5699), (3, .int x_5696), (0, .ref oK)]) hx hb dX6_fittingSets_72 hl (k := 2) rfl ex_5700.symm (by decide) rfl (fun ls hl => ?_)
          refine lv_goto (tgt := 4) hx hb dX6_fittingSets_75 (by decide) ?_
          exact ih_n_5691 x_5700 x_5699 f_5694 f_5695 _ _ _  ⟨(om_83b90de5 hi0_n_5691.1 vx_5700), (om_4b156bce ux_5692.2 gc_5693 vx_5700)⟩ (ms_lt hm_n_5691 (om_b9393183 vx_5700) (om_33376cd8 ux_5692.2 gc_5693)) hG (hP.sub [0, 4, 5, 6, 7, 8, 9, 12, 10, 11, 1, 2, 3] rfl) (hD.sub [0, 4, 5, 6, 7, 8, 9, 12, 10, 11, 1, 2, 3] (by decide) rfl) hS (lv_sub hl [0, 1, 3] rfl)
        · skip
          have hG := hG.trans (if_neg c_5697)
          have gc_5697 := ti_nlt c_5697 rfl kc_0
          refine lv_iload_n hx hb dX6_fittingSets_45 rfl (lv_at hl 0 rfl) ?_
          refine lv_aload_n hx hb dX6_fittingSets_46 rfl (lv_at hl 3 rfl) ?_
          refine va_get (D := (dC, dI)) (ci := 6) (v := .ref oC) (C := RX6) (T := TX6) (N := 12) hx hb hts inX6 hown hK hP 0 rfl rfl 1 (by decide) (hts _ wd_20) (fun _ h9 => h9) rfl dX6_fittingSets_47 ?_
          refine va_get (D := (dC, dI)) (ci := 1) (v := .int iC_unit) (C := RX1) (T := TX1) (N := 19) hx hb hts inX1 hown hK hP 4 rfl rfl 7 (by decide) (hts _ wd_611) (fun _ h9 => h9) rfl dX6_fittingSets_50 ?_
          have rg_iC_unit := fb_rng iC_unit
          have hFc : ∀ q, va_A [] _ q → A q := fun q h => hA q (Nat.le_trans hS.1 (va_nilA h))
          refine va_calli (va_runS (As := [.int x_5696, .int iC_unit]) (rest := []) ⟨hx, hb, hml, hown, hts⟩ (tX6_wholeOf l dC dI _ x_5696 iC_unit ) (va_cwS 2 hts (wd_S wd_1176 wd_627 wd_2 (wd_c wd_628)) rfl rfl rfl ds_yX6_wholeOf_2 ⟨Nat.le_of_ble_eq_true rfl, Nat.le_of_ble_eq_true rfl⟩) ⟨Pw.fb, fun U hU hW => Pn.to hK hE hS hA hU hW⟩ rfl rfl hl.1 rfl (lv_room (Nat.le_of_ble_eq_true rfl)) dX6_fittingSets_53 ⟨Nat.le_of_ble_eq_true rfl, Nat.le_of_ble_eq_true rfl⟩) hS (fun q _ h => hFc q h) hFc (fun r u t H locs ht hvm hw hB hz1 hk1 hS => ?_)
          obtain ⟨hP, hD, hK⟩ := Bw.same ht hvm hP hD hK hk1 hFc
          clear hz1 hk1 hvm ht hB
          have hq9 := hw.2
          have hw := hw.1
          obtain ⟨x_5701, rfl⟩ : ∃ z, z = r := ⟨_, rfl⟩
          have hq_x_5701 := hq9
          have hG := hG.trans (lt_eq hq_x_5701.symm)
          have rg_x_5701 := fb_rng x_5701
          refine lv_aload_n hx hb dX6_fittingSets_56 rfl (lv_at hl 3 rfl) ?_
          refine va_get (D := (dC, dI)) (ci := 6) (v := .ref oC) (C := RX6) (T := TX6) (N := 12) hx hb hts inX6 hown hK hP 0 rfl rfl 1 (by decide) (hts _ wd_20) (fun _ h9 => h9) rfl dX6_fittingSets_57 ?_
          refine va_get (D := (dC, dI)) (ci := 1) (v := .int iC_saidWorth) (C := RX1) (T := TX1) (N := 19) hx hb hts inX1 hown hK hP 4 rfl rfl 6 (by decide) (hts _ wd_1164) (fun _ h9 => h9) rfl dX6_fittingSets_60 ?_
          refine lv_icmp_ne (tgt := 72) hx hb dX6_fittingSets_63 (by decide) (fun c_5702 => ?_) (fun c_5702 => ?_)
          · skip
            have hG := hG.trans (if_neg c_5702)
            have gc_5702 := ti_ne c_5702 rfl rfl
            obtain ⟨x_5703, ex_5703⟩ : ∃ z : Int32, z = z_5687 + Int32.ofInt 1 := ⟨_, rfl⟩
            have hG := hG.trans (lt_eq ex_5703)
            have vx_5703 : x_5703.toInt = z_5687.toInt + 1 := ti_add (y := 1) ex_5703 rfl kc_1 (om_4e4fce7e hi0_n_5691.1) (om_26fca3fc ux_5692.2 gc_5693)
            refine lv_iinc (v := x_5703) (lv' := [(2, .int x_5703), (3, .int x_5696), (1, .int z_5688), (0, .ref oK)]) hx hb dX6_fittingSets_72 hl (k := 1) rfl ex_5703.symm (by decide) rfl (fun ls hl => ?_)
            refine lv_goto (tgt := 4) hx hb dX6_fittingSets_75 (by decide) ?_
            exact ih_n_5691 x_5703 z_5688 f_5694 f_5695 _ _ _  ⟨(om_83b90de5 hi0_n_5691.1 vx_5703), (om_4b156bce ux_5692.2 gc_5693 vx_5703)⟩ (ms_lt hm_n_5691 (om_b9393183 vx_5703) (om_33376cd8 ux_5692.2 gc_5693)) hG (hP.sub [0, 4, 5, 6, 7, 8, 9, 12, 10, 11, 1, 2, 3] rfl) (hD.sub [0, 4, 5, 6, 7, 8, 9, 12, 10, 11, 1, 2, 3] (by decide) rfl) hS (lv_sub hl [0, 2, 3] rfl)
          · skip
            have hG := hG.trans (if_pos c_5702)
            have gc_5702 := ti_eq c_5702 rfl rfl
            refine lv_iload_n hx hb dX6_fittingSets_66 rfl (lv_at hl 2 rfl) ?_
            refine lv_iconst (v := 1) hx hb dX6_fittingSets_67 (by decide) ?_
            refine lv_iload_n hx hb dX6_fittingSets_68 rfl (lv_at hl 1 rfl) ?_
            refine lv_ishl hx hb dX6_fittingSets_69 ?_
            refine lv_topi (fun x_5704 ex_5704 => ?_)
            have hG := hG.trans (lt_eq ex_5704)
            have rg_x_5704 := fb_rng x_5704
            refine lv_ior hx hb dX6_fittingSets_70 ?_
            refine lv_topi (fun x_5705 ex_5705 => ?_)
            have hG := hG.trans (lt_eq ex_5705)
            have rg_x_5705 := fb_rng x_5705
            refine lv_istore_n (lv' := [(1, .int x_5705), (3, .int x_5696), (2, .int z_5687), (0, .ref oK)]) hx hb dX6_fittingSets_71 rfl hl (by decide) rfl (fun ls hl => ?_)
            obtain ⟨x_5706, ex_5706⟩ : ∃ z : Int32, z = z_5687 + Int32.ofInt 1 := ⟨_, rfl⟩
            have hG := hG.trans (lt_eq ex_5706)
            have vx_5706 : x_5706.toInt = z_5687.toInt + 1 := ti_add (y := 1) ex_5706 rfl kc_1 (om_4e4fce7e hi0_n_5691.1) (om_26fca3fc ux_5692.2 gc_5693)
            refine lv_iinc (v := x_5706) (lv' := [(2, .int x_5706), (1, .int x_5705), (3, .int x_5696), (0, .ref oK)]) hx hb dX6_fittingSets_72 hl (k := 2) rfl ex_5706.symm (by decide) rfl (fun ls hl => ?_)
            refine lv_goto (tgt := 4) hx hb dX6_fittingSets_75 (by decide) ?_
            exact ih_n_5691 x_5706 x_5705 f_5694 f_5695 _ _ _  ⟨(om_83b90de5 hi0_n_5691.1 vx_5706), (om_4b156bce ux_5692.2 gc_5693 vx_5706)⟩ (ms_lt hm_n_5691 (om_b9393183 vx_5706) (om_33376cd8 ux_5692.2 gc_5693)) hG (hP.sub [0, 4, 5, 6, 7, 8, 9, 12, 10, 11, 1, 2, 3] rfl) (hD.sub [0, 4, 5, 6, 7, 8, 9, 12, 10, 11, 1, 2, 3] (by decide) rfl) hS (lv_sub hl [0, 1, 3] rfl)
  exact key_n_5691 (((2147483647 - (0 : Int32).toInt).toNat) + 1) 0 0 fL_values fL_supposed _ _ _  ⟨(om_b1de7dbe kc_0), (om_daf17c64 kc_0)⟩ (Nat.lt_add_one _) hG hP hD hS hl
set_option maxHeartbeats 4000000 in
set_option maxRecDepth 100000 in
theorem tX6_leftAtMost (l : Launch) (dC : Nat → ClassId) (dI : Nat → Nat → Nat) (sz : Nat) (oK : Nat) (oR : Nat) (oC : Nat) (oS : Nat) (oT : Nat) (rK_images : Nat) (iK_imageCount : Int32) (oA : Nat) (oH : Nat) (oL : Nat) (iK_refusal : Int32) (iK_latestFault : Int32) (iK_latestPlace : Int32) (iC_nodes : Int32) (iC_words : Int32) (iC_chances : Int32) (iC_unsures : Int32) (iC_slips : Int32) (iC_throneNode : Int32) (iC_saidWorth : Int32) (iC_unit : Int32) (rC_kind : Nat) (rC_parts : Nat) (rC_partNodes : Nat) (rC_weights : Nat) (rC_weightSums : Nat) (rC_toldWorths : Nat) (rC_steps : Nat) (rC_below : Nat) (rC_above : Nat) (rC_unsureWords : Nat) (rC_unsureWorths : Nat) (p0 : Int32) (p1 : Int32) (b_iK_imageCount : 0 ≤ iK_imageCount.toInt ∧ iK_imageCount.toInt ≤ 3) (b_iC_nodes : 0 ≤ iC_nodes.toInt ∧ iC_nodes.toInt ≤ 18) (b_iC_unsures : 0 ≤ iC_unsures.toInt ∧ iC_unsures.toInt ≤ 4) (b_iC_throneNode : (-1) ≤ iC_throneNode.toInt ∧ iC_throneNode.toInt ≤ 17)  : Met l yX6_leftAtMost (Cond.code yX6_leftAtMost cX6_leftAtMost 5 (some .int) :: wG) ({ frames := 1, cells := 0, slots := 0, locals := 29 }) (va_Pc [.ref oK, .int p0, .int p1] (Pw dC dI sz [(oc6 oK oR oC oS oT rK_images iK_imageCount oA oH oL iK_refusal iK_latestFault iK_latestPlace), (oc1 oC iC_nodes iC_words iC_chances iC_unsures iC_slips iC_throneNode iC_saidWorth iC_unit rC_kind rC_parts rC_partNodes rC_weights rC_weightSums rC_toldWorths rC_steps rC_below rC_above rC_unsureWords rC_unsureWorths)] [])) (va_Qi (fun (r : Int32) (_ : Nat) => (True ∧ True) ∧ PX6_leftAtMost iC_unsures p0 p1 = r) (fun (_ : Nat) (t : State) => Bw dC dI (va_A [(oc6 oK oR oC oS oT rK_images iK_imageCount oA oH oL iK_refusal iK_latestFault iK_latestPlace), (oc1 oC iC_nodes iC_words iC_chances iC_unsures iC_slips iC_throneNode iC_saidWorth iC_unit rC_kind rC_parts rC_partNodes rC_weights rC_weightSums rC_toldWorths rC_steps rC_below rC_above rC_unsureWords rC_unsureWorths)] sz) [(oc6 oK oR oC oS oT rK_images iK_imageCount oA oH oL iK_refusal iK_latestFault iK_latestPlace), (oc1 oC iC_nodes iC_words iC_chances iC_unsures iC_slips iC_throneNode iC_saidWorth iC_unit rC_kind rC_parts rC_partNodes rC_weights rC_weightSums rC_toldWorths rC_steps rC_below rC_above rC_unsureWords rC_unsureWorths)] [] t) (va_A [(oc6 oK oR oC oS oT rK_images iK_imageCount oA oH oL iK_refusal iK_latestFault iK_latestPlace), (oc1 oC iC_nodes iC_words iC_chances iC_unsures iC_slips iC_throneNode iC_saidWorth iC_unit rC_kind rC_parts rC_partNodes rC_weights rC_weightSums rC_toldWorths rC_steps rC_below rC_above rC_unsureWords rC_unsureWorths)] sz)) 0 0 (va_A [(oc6 oK oR oC oS oT rK_images iK_imageCount oA oH oL iK_refusal iK_latestFault iK_latestPlace), (oc1 oC iC_nodes iC_words iC_chances iC_unsures iC_slips iC_throneNode iC_saidWorth iC_unit rC_kind rC_parts rC_partNodes rC_weights rC_weightSums rC_toldWorths rC_steps rC_below rC_above rC_unsureWords rC_unsureWorths)] sz) := by
  refine Met.ofW (cc := cX6_leftAtMost) (maxL := 5) (ret := (some .int)) pnX6 rfl ?_
  intro p e s m args below meth c s₁ B hml hv
  obtain ⟨rfl, hsz, hP, hK, hD0, hE⟩ := hv
  have hx := B.exec
  have hb := B.bytes
  have hr := B.returns
  have hts : ∀ w ∈ wG, w.before ([.ref oK, .int p0, .int p1] : List Value).toArray s = true := fun w h => atoms_spec (ws := Cond.code yX6_leftAtMost cX6_leftAtMost 5 (some .int) :: wG) B.pre w (List.mem_cons_of_mem _ h)
  have hown : s.vm.findClass RX6 = some m.cls := own_of B.named rfl
  have hlocks := B.notSynchronized
  subst hsz
  have hD := hD0.self (sz := s.heap.size)
  generalize hAe : va_A [(oc6 oK oR oC oS oT rK_images iK_imageCount oA oH oL iK_refusal iK_latestFault iK_latestPlace), (oc1 oC iC_nodes iC_words iC_chances iC_unsures iC_slips iC_throneNode iC_saidWorth iC_unit rC_kind rC_parts rC_partNodes rC_weights rC_weightSums rC_toldWorths rC_steps rC_below rC_above rC_unsureWords rC_unsureWorths)] s.heap.size = A at hD hE ⊢
  have hA : ∀ q : Nat, s.heap.size ≤ q → A q := fun q h => by rw [← hAe]; exact Or.inr h
  have hS : va_S A s.heap s.heap [] := va_S.rf
  have hl := lv_entry ([.ref oK, .int p0, .int p1]) (n := 5) (Nat.le_of_ble_eq_true rfl)
  rw [lg_entry_eq]
  generalize (lg_sl ([.ref oK, .int p0, .int p1]) ++ List.replicate (5 - (lg_sl ([.ref oK, .int p0, .int p1])).length) Slot.unset).toArray = ls at hl ⊢
  have hl : lv_has ls 5 [(0, .ref oK), (1, .int p0), (2, .int p1)] := hl
  have hG := PX6_leftAtMost_eq iC_unsures p0 p1
  have rg_p0 := fb_rng p0
  have rg_p1 := fb_rng p1
  refine lv_iconst (v := 0) hx hb dX6_leftAtMost_0 (by decide) ?_
  refine lv_istore_n (lv' := [(3, .int 0), (0, .ref oK), (1, .int p0), (2, .int p1)]) hx hb dX6_leftAtMost_1 rfl hl (by decide) rfl (fun ls hl => ?_)
  refine lv_iconst (v := 0) hx hb dX6_leftAtMost_2 (by decide) ?_
  refine lv_istore (lv' := [(4, .int 0), (3, .int 0), (0, .ref oK), (1, .int p0), (2, .int p1)]) hx hb dX6_leftAtMost_3 hl (by decide) rfl (fun ls hl => ?_)
  have hl := lv_sub hl (l' := [(4, .int 0), (3, .int 0), (0, .ref oK), (1, .int p0), (2, .int p1)]) [0, 1, 2, 3, 4] rfl
  have key_n_5744 : ∀ (n_5744 : Nat) (z_5742 : Int32) (z_5743 : Int32) (H : Heap) (locs : List Loc) (ls : Array Slot), (0 ≤ z_5742.toInt ∧ z_5742.toInt ≤ 2147483647) → (2147483647 - z_5742.toInt).toNat < n_5744 → (PX6_leftAtMost iC_unsures p0 p1 = HX6_leftAtMost_0 iC_unsures p0 p1 n_5744 z_5742 z_5743) → va_P (dC, dI) vwCl [(oc6 oK oR oC oS oT rK_images iK_imageCount oA oH oL iK_refusal iK_latestFault iK_latestPlace), (oc1 oC iC_nodes iC_words iC_chances iC_unsures iC_slips iC_throneNode iC_saidWorth iC_unit rC_kind rC_parts rC_partNodes rC_weights rC_weightSums rC_toldWorths rC_steps rC_below rC_above rC_unsureWords rC_unsureWorths)] H → va_D A [(oc6 oK oR oC oS oT rK_images iK_imageCount oA oH oL iK_refusal iK_latestFault iK_latestPlace), (oc1 oC iC_nodes iC_words iC_chances iC_unsures iC_slips iC_throneNode iC_saidWorth iC_unit rC_kind rC_parts rC_partNodes rC_weights rC_weightSums rC_toldWorths rC_steps rC_below rC_above rC_unsureWords rC_unsureWorths)] → va_S A s.heap H locs → lv_has ls 5 [(4, .int z_5742), (3, .int z_5743), (0, .ref oK), (1, .int p0), (2, .int p1)] → W p l e (headSpec (Cond.code yX6_leftAtMost cX6_leftAtMost 5 (some .int) :: wG) ({ frames := 1, cells := 0, slots := 0, locals := 29 })).room s m ([.ref oK, .int p0, .int p1] : List Value).toArray below meth c H locs 0 0 (MQ below (va_Qi (fun (r : Int32) (_ : Nat) => (True ∧ True) ∧ PX6_leftAtMost iC_unsures p0 p1 = r) (fun (_ : Nat) (t : State) => Bw dC dI A [(oc6 oK oR oC oS oT rK_images iK_imageCount oA oH oL iK_refusal iK_latestFault iK_latestPlace), (oc1 oC iC_nodes iC_words iC_chances iC_unsures iC_slips iC_throneNode iC_saidWorth iC_unit rC_kind rC_parts rC_partNodes rC_weights rC_weightSums rC_toldWorths rC_steps rC_below rC_above rC_unsureWords rC_unsureWorths)] [] t) A) ([.ref oK, .int p0, .int p1] : List Value).toArray s 0 0 A) (F0 m 5 ls []) := by
    intro n_5744
    induction n_5744 with
    | zero => intro z_5742 z_5743 H locs ls hi0_n_5744 hm; exact absurd hm (Nat.not_lt_zero _)
    | succ n_5744 ih_n_5744 =>
      intro z_5742 z_5743 H locs ls hi0_n_5744 hm_n_5744 hG hP hD hS hl
      have hG := hG.trans (HX6_leftAtMost_0_eq _ _ _ _ _ _)
      have rg_z_5742 := fb_rng z_5742
      have rg_z_5743 := fb_rng z_5743
      refine lv_iload hx hb dX6_leftAtMost_5 (lv_at hl 0 rfl) ?_
      refine lv_aload_n hx hb dX6_leftAtMost_7 rfl (lv_at hl 2 rfl) ?_
      refine va_get (D := (dC, dI)) (ci := 6) (v := .ref oC) (C := RX6) (T := TX6) (N := 12) hx hb hts inX6 hown hK hP 0 rfl rfl 1 (by decide) (hts _ wd_20) (fun _ h9 => h9) rfl dX6_leftAtMost_8 ?_
      have hMs := ml_of hD [false, true] (wc := [(oc1 oC iC_nodes iC_words iC_chances iC_unsures iC_slips iC_throneNode iC_saidWorth iC_unit rC_kind rC_parts rC_partNodes rC_weights rC_weightSums rC_toldWorths rC_steps rC_below rC_above rC_unsureWords rC_unsureWorths)]) rfl
      have hFc := va_freeM hD hS hA _ hMs
      refine va_calli (va_runV (As := []) (rest := [.int z_5742]) ⟨hx, hb, hml, hown, hts⟩ (tX1_unsureSets l dC dI _ oC iC_nodes iC_words iC_chances iC_unsures iC_slips iC_throneNode iC_saidWorth iC_unit rC_kind rC_parts rC_partNodes rC_weights rC_weightSums rC_toldWorths rC_steps rC_below rC_above rC_unsureWords rC_unsureWorths b_iC_nodes b_iC_unsures b_iC_throneNode) (cwV 0 hts (wd_V wd_1165 wd_1166 wd_1167 wd_19 (wd_c wd_1168)) rfl rfl rfl dv_yX1_unsureSets_0 ⟨Nat.le_of_ble_eq_true rfl, Nat.le_of_ble_eq_true rfl⟩) ⟨Pw.fb, recvX1 hK hP (q0 := 1) rfl, fun U hU hW => Pw.to (hP.ms _ hMs) (hD.ms _ hMs) hK hE hS hFc hU hW⟩ rfl rfl hl.1 rfl (lv_room (Nat.le_of_ble_eq_true rfl)) dX6_leftAtMost_11 ⟨Nat.le_of_ble_eq_true rfl, Nat.le_of_ble_eq_true rfl⟩) hS (fun q _ h => hFc q h) hFc (fun r u t H locs ht hvm hw hB hz1 hk1 hS => ?_)
      have hru9 := hw.2
      have hw := hw.1
      obtain ⟨hP, hD⟩ := Bw.goN (ws' := [(oc6 oK oR oC oS oT rK_images iK_imageCount oA oH oL iK_refusal iK_latestFault iK_latestPlace), (oc1 oC iC_nodes iC_words iC_chances iC_unsures iC_slips iC_throneNode iC_saidWorth iC_unit rC_kind rC_parts rC_partNodes rC_weights rC_weightSums rC_toldWorths rC_steps rC_below rC_above rC_unsureWords rC_unsureWorths)]) hB rfl ht hP hD _ hMs hk1 hFc rfl
      clear hz1 hk1 hvm ht hB hMs
      obtain ⟨x_5745, rfl⟩ : ∃ z, z = r := ⟨_, rfl⟩
      have hG := hG.trans (lt_eq hru9.symm)
      have rg_x_5745 := fb_rng x_5745
      have ux_5745 := hw.2
      refine lv_icmp_ge (tgt := 46) hx hb dX6_leftAtMost_14 (by decide) (fun c_5746 => ?_) (fun c_5746 => ?_)
      · skip
        have hG := hG.trans (if_pos c_5746)
        have gc_5746 := ti_le c_5746 rfl rfl
        refine lv_iload_n hx hb dX6_leftAtMost_46 rfl (lv_at hl 1 rfl) ?_
        refine lv_iload_n hx hb dX6_leftAtMost_47 rfl (lv_at hl 3 rfl) ?_
        have hFc : ∀ q, va_A [] _ q → A q := fun q h => hA q (Nat.le_trans hS.1 (va_nilA h))
        refine va_calli (va_runS (As := [.int p0]) (rest := [.int z_5743]) ⟨hx, hb, hml, hown, hts⟩ (tJ6_bitCount_0f7a4 l dC dI _ p0 ) (va_cwS 1 hts (wd_S wd_950 wd_951 wd_952 (wd_c wd_953)) rfl rfl rfl ds_yJ6_bitCount_0f7a4_1 ⟨Nat.le_of_ble_eq_true rfl, Nat.le_of_ble_eq_true rfl⟩) ⟨Pw.fb, fun U hU hW => Pn.to hK hE hS hA hU hW⟩ rfl rfl hl.1 rfl (lv_room (Nat.le_of_ble_eq_true rfl)) dX6_leftAtMost_48 ⟨Nat.le_of_ble_eq_true rfl, Nat.le_of_ble_eq_true rfl⟩) hS (fun q _ h => hFc q h) hFc (fun r u t H locs ht hvm hw hB hz1 hk1 hS => ?_)
        obtain ⟨hP, hD, hK⟩ := Bw.same ht hvm hP hD hK hk1 hFc
        clear hz1 hk1 hvm ht hB
        have hq9 := hw.2
        have hw := hw.1
        obtain ⟨x_5747, rfl⟩ : ∃ z, z = r := ⟨_, rfl⟩
        have hq_x_5747 := hq9
        have hG := hG.trans (lt_eq hq_x_5747.symm)
        have rg_x_5747 := fb_rng x_5747
        refine lv_iload_n hx hb dX6_leftAtMost_51 rfl (lv_at hl 1 rfl) ?_
        refine lv_isub hx hb dX6_leftAtMost_52 ?_
        refine lv_topi (fun x_5748 ex_5748 => ?_)
        have hG := hG.trans (lt_eq ex_5748)
        have rg_x_5748 := fb_rng x_5748
        refine va_mmax hx hb (hml.trans hl.1.symm) hown (hts _ wd_1125) (hts _ wd_321) (hts _ wd_322) (hts _ wd_323) (Nat.le_of_ble_eq_true rfl) (Nat.le_of_ble_eq_true rfl) (Nat.le_of_ble_eq_true rfl) (Nat.le_of_ble_eq_true rfl) dX6_leftAtMost_53 ?_
        refine lv_topi (fun x_5749 ex_5749 => ?_)
        have hG := hG.trans (lt_eq ex_5749)
        have rg_x_5749 := fb_rng x_5749
        have qx_5749 := ti_max ex_5749 rfl rfl
        exact wq_i hx hb hr 0 ⟨⟨trivial, trivial⟩, hG⟩ (fun t ht hW => Bw.to hP hD hK ht hW) hS dX6_leftAtMost_56 hlocks
      · skip
        have hG := hG.trans (if_neg c_5746)
        have gc_5746 := ti_nle c_5746 rfl rfl
        refine lv_iload_n hx hb dX6_leftAtMost_17 rfl (lv_at hl 3 rfl) ?_
        refine lv_iload hx hb dX6_leftAtMost_18 (lv_at hl 0 rfl) ?_
        refine lv_ishr hx hb dX6_leftAtMost_20 ?_
        refine lv_topi (fun x_5750 ex_5750 => ?_)
        have hG := hG.trans (lt_eq ex_5750)
        have rg_x_5750 := fb_rng x_5750
        refine lv_iconst (v := 1) hx hb dX6_leftAtMost_21 (by decide) ?_
        refine lv_iand hx hb dX6_leftAtMost_22 ?_
        refine lv_topi (fun x_5751 ex_5751 => ?_)
        have hG := hG.trans (lt_eq ex_5751)
        have rg_x_5751 := fb_rng x_5751
        refine lv_iconst (v := 1) hx hb dX6_leftAtMost_23 (by decide) ?_
        refine lv_icmp_ne (tgt := 40) hx hb dX6_leftAtMost_24 (by decide) (fun c_5752 => ?_) (fun c_5752 => ?_)
        · skip
          have hG := hG.trans (if_neg c_5752)
          have gc_5752 := ti_ne c_5752 rfl kc_1
          obtain ⟨x_5753, ex_5753⟩ : ∃ z : Int32, z = z_5742 + Int32.ofInt 1 := ⟨_, rfl⟩
          have hG := hG.trans (lt_eq ex_5753)
          have vx_5753 : x_5753.toInt = z_5742.toInt + 1 := ti_add (y := 1) ex_5753 rfl kc_1 (om_4e4fce7e hi0_n_5744.1) (om_26fca3fc ux_5745.2 gc_5746)
          refine lv_iinc (v := x_5753) (lv' := [(4, .int x_5753), (3, .int z_5743), (0, .ref oK), (1, .int p0), (2, .int p1)]) hx hb dX6_leftAtMost_40 hl (k := 0) rfl ex_5753.symm (by decide) rfl (fun ls hl => ?_)
          refine lv_goto (tgt := 5) hx hb dX6_leftAtMost_43 (by decide) ?_
          exact ih_n_5744 x_5753 z_5743 _ _ _  ⟨(om_83b90de5 hi0_n_5744.1 vx_5753), (om_4b156bce ux_5745.2 gc_5746 vx_5753)⟩ (ms_lt hm_n_5744 (om_b9393183 vx_5753) (om_33376cd8 ux_5745.2 gc_5746)) hG hP hD hS (lv_sub hl [0, 1, 2, 3, 4] rfl)
        · skip
          have hG := hG.trans (if_pos c_5752)
          have gc_5752 := ti_eq c_5752 rfl kc_1
          refine lv_iload hx hb dX6_leftAtMost_27 (lv_at hl 0 rfl) ?_
          refine lv_iload_n hx hb dX6_leftAtMost_29 rfl (lv_at hl 4 rfl) ?_
          refine lv_ishr hx hb dX6_leftAtMost_30 ?_
          refine lv_topi (fun x_5754 ex_5754 => ?_)
          have hG := hG.trans (lt_eq ex_5754)
          have rg_x_5754 := fb_rng x_5754
          refine lv_iconst (v := 1) hx hb dX6_leftAtMost_31 (by decide) ?_
          refine lv_iand hx hb dX6_leftAtMost_32 ?_
          refine lv_topi (fun x_5755 ex_5755 => ?_)
          have hG := hG.trans (lt_eq ex_5755)
          have rg_x_5755 := fb_rng x_5755
          refine lv_iconst (v := 1) hx hb dX6_leftAtMost_33 (by decide) ?_
          refine lv_icmp_ne (tgt := 40) hx hb dX6_leftAtMost_34 (by decide) (fun c_5756 => ?_) (fun c_5756 => ?_)
          · skip
            have hG := hG.trans (if_neg c_5756)
            have gc_5756 := ti_ne c_5756 rfl kc_1
            obtain ⟨x_5757, ex_5757⟩ : ∃ z : Int32, z = z_5742 + Int32.ofInt 1 := ⟨_, rfl⟩
            have hG := hG.trans (lt_eq ex_5757)
            have vx_5757 : x_5757.toInt = z_5742.toInt + 1 := ti_add (y := 1) ex_5757 rfl kc_1 (om_4e4fce7e hi0_n_5744.1) (om_26fca3fc ux_5745.2 gc_5746)
            refine lv_iinc (v := x_5757) (lv' := [(4, .int x_5757), (3, .int z_5743), (0, .ref oK), (1, .int p0), (2, .int p1)]) hx hb dX6_leftAtMost_40 hl (k := 0) rfl ex_5757.symm (by decide) rfl (fun ls hl => ?_)
            refine lv_goto (tgt := 5) hx hb dX6_leftAtMost_43 (by decide) ?_
            exact ih_n_5744 x_5757 z_5743 _ _ _  ⟨(om_83b90de5 hi0_n_5744.1 vx_5757), (om_4b156bce ux_5745.2 gc_5746 vx_5757)⟩ (ms_lt hm_n_5744 (om_b9393183 vx_5757) (om_33376cd8 ux_5745.2 gc_5746)) hG hP hD hS (lv_sub hl [0, 1, 2, 3, 4] rfl)
          · skip
            have hG := hG.trans (if_pos c_5756)
            have gc_5756 := ti_eq c_5756 rfl kc_1
            obtain ⟨x_5758, ex_5758⟩ : ∃ z : Int32, z = z_5743 + Int32.ofInt 1 := ⟨_, rfl⟩
            have hG := hG.trans (lt_eq ex_5758)
            have rg_x_5758 := fb_rng x_5758
            refine lv_iinc (v := x_5758) (lv' := [(3, .int x_5758), (4, .int z_5742), (0, .ref oK), (1, .int p0), (2, .int p1)]) hx hb dX6_leftAtMost_37 hl (k := 1) rfl ex_5758.symm (by decide) rfl (fun ls hl => ?_)
            obtain ⟨x_5759, ex_5759⟩ : ∃ z : Int32, z = z_5742 + Int32.ofInt 1 := ⟨_, rfl⟩
            have hG := hG.trans (lt_eq ex_5759)
            have vx_5759 : x_5759.toInt = z_5742.toInt + 1 := ti_add (y := 1) ex_5759 rfl kc_1 (om_4e4fce7e hi0_n_5744.1) (om_26fca3fc ux_5745.2 gc_5746)
            refine lv_iinc (v := x_5759) (lv' := [(4, .int x_5759), (3, .int x_5758), (0, .ref oK), (1, .int p0), (2, .int p1)]) hx hb dX6_leftAtMost_40 hl (k := 1) rfl ex_5759.symm (by decide) rfl (fun ls hl => ?_)
            refine lv_goto (tgt := 5) hx hb dX6_leftAtMost_43 (by decide) ?_
            exact ih_n_5744 x_5759 x_5758 _ _ _  ⟨(om_83b90de5 hi0_n_5744.1 vx_5759), (om_4b156bce ux_5745.2 gc_5746 vx_5759)⟩ (ms_lt hm_n_5744 (om_b9393183 vx_5759) (om_33376cd8 ux_5745.2 gc_5746)) hG hP hD hS (lv_sub hl [0, 1, 2, 3, 4] rfl)
  exact key_n_5744 (((2147483647 - (0 : Int32).toInt).toNat) + 1) 0 0 _ _ _  ⟨(om_b1de7dbe kc_0), (om_daf17c64 kc_0)⟩ (Nat.lt_add_one _) hG hP hD hS hl
set_option maxHeartbeats 4000000 in
set_option maxRecDepth 100000 in
theorem tX6_unsureToAsk (l : Launch) (dC : Nat → ClassId) (dI : Nat → Nat → Nat) (sz : Nat) (oK : Nat) (oR : Nat) (oC : Nat) (oS : Nat) (oT : Nat) (rK_images : Nat) (iK_imageCount : Int32) (oA : Nat) (oH : Nat) (oL : Nat) (iK_refusal : Int32) (iK_latestFault : Int32) (iK_latestPlace : Int32) (iC_nodes : Int32) (iC_words : Int32) (iC_chances : Int32) (iC_unsures : Int32) (iC_slips : Int32) (iC_throneNode : Int32) (iC_saidWorth : Int32) (iC_unit : Int32) (rC_kind : Nat) (rC_parts : Nat) (rC_partNodes : Nat) (rC_weights : Nat) (rC_weightSums : Nat) (rC_toldWorths : Nat) (rC_steps : Nat) (rC_below : Nat) (rC_above : Nat) (rC_unsureWords : Nat) (rC_unsureWorths : Nat) (p0 : Int32) (b_iK_imageCount : 0 ≤ iK_imageCount.toInt ∧ iK_imageCount.toInt ≤ 3) (b_iC_nodes : 0 ≤ iC_nodes.toInt ∧ iC_nodes.toInt ≤ 18) (b_iC_unsures : 0 ≤ iC_unsures.toInt ∧ iC_unsures.toInt ≤ 4) (b_iC_throneNode : (-1) ≤ iC_throneNode.toInt ∧ iC_throneNode.toInt ≤ 17)  : Met l yX6_unsureToAsk (Cond.code yX6_unsureToAsk cX6_unsureToAsk 6 (some .int) :: wG) ({ frames := 2, cells := 0, slots := 0, locals := 53 }) (va_Pc [.ref oK, .int p0] (Pw dC dI sz [(oc6 oK oR oC oS oT rK_images iK_imageCount oA oH oL iK_refusal iK_latestFault iK_latestPlace), (oc1 oC iC_nodes iC_words iC_chances iC_unsures iC_slips iC_throneNode iC_saidWorth iC_unit rC_kind rC_parts rC_partNodes rC_weights rC_weightSums rC_toldWorths rC_steps rC_below rC_above rC_unsureWords rC_unsureWorths)] [])) (va_Qi (fun (r : Int32) (_ : Nat) => (True ∧ ((-1) ≤ r.toInt ∧ r.toInt ≤ 3)) ∧ PX6_unsureToAsk iC_unsures p0 = r) (fun (_ : Nat) (t : State) => Bw dC dI (va_A [(oc6 oK oR oC oS oT rK_images iK_imageCount oA oH oL iK_refusal iK_latestFault iK_latestPlace), (oc1 oC iC_nodes iC_words iC_chances iC_unsures iC_slips iC_throneNode iC_saidWorth iC_unit rC_kind rC_parts rC_partNodes rC_weights rC_weightSums rC_toldWorths rC_steps rC_below rC_above rC_unsureWords rC_unsureWorths)] sz) [(oc6 oK oR oC oS oT rK_images iK_imageCount oA oH oL iK_refusal iK_latestFault iK_latestPlace), (oc1 oC iC_nodes iC_words iC_chances iC_unsures iC_slips iC_throneNode iC_saidWorth iC_unit rC_kind rC_parts rC_partNodes rC_weights rC_weightSums rC_toldWorths rC_steps rC_below rC_above rC_unsureWords rC_unsureWorths)] [] t) (va_A [(oc6 oK oR oC oS oT rK_images iK_imageCount oA oH oL iK_refusal iK_latestFault iK_latestPlace), (oc1 oC iC_nodes iC_words iC_chances iC_unsures iC_slips iC_throneNode iC_saidWorth iC_unit rC_kind rC_parts rC_partNodes rC_weights rC_weightSums rC_toldWorths rC_steps rC_below rC_above rC_unsureWords rC_unsureWorths)] sz)) 0 0 (va_A [(oc6 oK oR oC oS oT rK_images iK_imageCount oA oH oL iK_refusal iK_latestFault iK_latestPlace), (oc1 oC iC_nodes iC_words iC_chances iC_unsures iC_slips iC_throneNode iC_saidWorth iC_unit rC_kind rC_parts rC_partNodes rC_weights rC_weightSums rC_toldWorths rC_steps rC_below rC_above rC_unsureWords rC_unsureWorths)] sz) := by
  refine Met.ofW (cc := cX6_unsureToAsk) (maxL := 6) (ret := (some .int)) pnX6 rfl ?_
  intro p e s m args below meth c s₁ B hml hv
  obtain ⟨rfl, hsz, hP, hK, hD0, hE⟩ := hv
  have hx := B.exec
  have hb := B.bytes
  have hr := B.returns
  have hts : ∀ w ∈ wG, w.before ([.ref oK, .int p0] : List Value).toArray s = true := fun w h => atoms_spec (ws := Cond.code yX6_unsureToAsk cX6_unsureToAsk 6 (some .int) :: wG) B.pre w (List.mem_cons_of_mem _ h)
  have hown : s.vm.findClass RX6 = some m.cls := own_of B.named rfl
  have hlocks := B.notSynchronized
  subst hsz
  have hD := hD0.self (sz := s.heap.size)
  generalize hAe : va_A [(oc6 oK oR oC oS oT rK_images iK_imageCount oA oH oL iK_refusal iK_latestFault iK_latestPlace), (oc1 oC iC_nodes iC_words iC_chances iC_unsures iC_slips iC_throneNode iC_saidWorth iC_unit rC_kind rC_parts rC_partNodes rC_weights rC_weightSums rC_toldWorths rC_steps rC_below rC_above rC_unsureWords rC_unsureWorths)] s.heap.size = A at hD hE ⊢
  have hA : ∀ q : Nat, s.heap.size ≤ q → A q := fun q h => by rw [← hAe]; exact Or.inr h
  have hS : va_S A s.heap s.heap [] := va_S.rf
  have hl := lv_entry ([.ref oK, .int p0]) (n := 6) (Nat.le_of_ble_eq_true rfl)
  rw [lg_entry_eq]
  generalize (lg_sl ([.ref oK, .int p0]) ++ List.replicate (6 - (lg_sl ([.ref oK, .int p0])).length) Slot.unset).toArray = ls at hl ⊢
  have hl : lv_has ls 6 [(0, .ref oK), (1, .int p0)] := hl
  have hG := PX6_unsureToAsk_eq iC_unsures p0
  have rg_p0 := fb_rng p0
  refine lv_iconst (v := (-1)) hx hb dX6_unsureToAsk_0 (by decide) ?_
  refine lv_istore_n (lv' := [(2, .int (-1)), (0, .ref oK), (1, .int p0)]) hx hb dX6_unsureToAsk_1 rfl hl (by decide) rfl (fun ls hl => ?_)
  refine lv_iconst (v := 0) hx hb dX6_unsureToAsk_2 (by decide) ?_
  refine lv_istore_n (lv' := [(3, .int 0), (2, .int (-1)), (0, .ref oK), (1, .int p0)]) hx hb dX6_unsureToAsk_3 rfl hl (by decide) rfl (fun ls hl => ?_)
  refine lv_iconst (v := 0) hx hb dX6_unsureToAsk_4 (by decide) ?_
  refine lv_istore (lv' := [(4, .int 0), (3, .int 0), (2, .int (-1)), (0, .ref oK), (1, .int p0)]) hx hb dX6_unsureToAsk_5 hl (by decide) rfl (fun ls hl => ?_)
  have hl := lv_sub hl (l' := [(4, .int 0), (3, .int 0), (2, .int (-1)), (0, .ref oK), (1, .int p0)]) [0, 1, 2, 3, 4] rfl
  have key_n_5783 : ∀ (n_5783 : Nat) (z_5780 : Int32) (z_5781 : Int32) (z_5782 : Int32) (H : Heap) (locs : List Loc) (ls : Array Slot), (0 ≤ z_5780.toInt ∧ z_5780.toInt ≤ 2147483647) → ((-1) ≤ z_5781.toInt ∧ z_5781.toInt ≤ 3) → (2147483647 - z_5780.toInt).toNat < n_5783 → (PX6_unsureToAsk iC_unsures p0 = HX6_unsureToAsk_0 iC_unsures p0 n_5783 z_5780 z_5781 z_5782) → va_P (dC, dI) vwCl [(oc6 oK oR oC oS oT rK_images iK_imageCount oA oH oL iK_refusal iK_latestFault iK_latestPlace), (oc1 oC iC_nodes iC_words iC_chances iC_unsures iC_slips iC_throneNode iC_saidWorth iC_unit rC_kind rC_parts rC_partNodes rC_weights rC_weightSums rC_toldWorths rC_steps rC_below rC_above rC_unsureWords rC_unsureWorths)] H → va_D A [(oc6 oK oR oC oS oT rK_images iK_imageCount oA oH oL iK_refusal iK_latestFault iK_latestPlace), (oc1 oC iC_nodes iC_words iC_chances iC_unsures iC_slips iC_throneNode iC_saidWorth iC_unit rC_kind rC_parts rC_partNodes rC_weights rC_weightSums rC_toldWorths rC_steps rC_below rC_above rC_unsureWords rC_unsureWorths)] → va_S A s.heap H locs → lv_has ls 6 [(4, .int z_5780), (3, .int z_5782), (2, .int z_5781), (0, .ref oK), (1, .int p0)] → W p l e (headSpec (Cond.code yX6_unsureToAsk cX6_unsureToAsk 6 (some .int) :: wG) ({ frames := 2, cells := 0, slots := 0, locals := 53 })).room s m ([.ref oK, .int p0] : List Value).toArray below meth c H locs 0 0 (MQ below (va_Qi (fun (r : Int32) (_ : Nat) => (True ∧ ((-1) ≤ r.toInt ∧ r.toInt ≤ 3)) ∧ PX6_unsureToAsk iC_unsures p0 = r) (fun (_ : Nat) (t : State) => Bw dC dI A [(oc6 oK oR oC oS oT rK_images iK_imageCount oA oH oL iK_refusal iK_latestFault iK_latestPlace), (oc1 oC iC_nodes iC_words iC_chances iC_unsures iC_slips iC_throneNode iC_saidWorth iC_unit rC_kind rC_parts rC_partNodes rC_weights rC_weightSums rC_toldWorths rC_steps rC_below rC_above rC_unsureWords rC_unsureWorths)] [] t) A) ([.ref oK, .int p0] : List Value).toArray s 0 0 A) (F0 m 7 ls []) := by
    intro n_5783
    induction n_5783 with
    | zero => intro z_5780 z_5781 z_5782 H locs ls hi0_n_5783 hi1_n_5783 hm; exact absurd hm (Nat.not_lt_zero _)
    | succ n_5783 ih_n_5783 =>
      intro z_5780 z_5781 z_5782 H locs ls hi0_n_5783 hi1_n_5783 hm_n_5783 hG hP hD hS hl
      have hG := hG.trans (HX6_unsureToAsk_0_eq _ _ _ _ _ _)
      have rg_z_5780 := fb_rng z_5780
      have rg_z_5781 := fb_rng z_5781
      have rg_z_5782 := fb_rng z_5782
      refine lv_iload_n hx hb dX6_unsureToAsk_7 rfl (lv_at hl 4 rfl) ?_
      refine lv_if_eq (tgt := 54) hx hb dX6_unsureToAsk_8 (by decide) (fun c_5784 => ?_) (fun c_5784 => ?_)
      · skip
        have hG := hG.trans (if_pos c_5784)
        have gc_5784 := ti_eq c_5784 rfl kc_0
        refine lv_iload_n hx hb dX6_unsureToAsk_54 rfl (lv_at hl 2 rfl) ?_
        exact wq_i hx hb hr 0 ⟨⟨trivial, ⟨hi1_n_5783.1, hi1_n_5783.2⟩⟩, hG⟩ (fun t ht hW => Bw.to hP hD hK ht hW) hS dX6_unsureToAsk_55 hlocks
      · skip
        have hG := hG.trans (if_neg c_5784)
        have gc_5784 := ti_ne c_5784 rfl kc_0
        refine lv_iload hx hb dX6_unsureToAsk_11 (lv_at hl 0 rfl) ?_
        refine lv_aload_n hx hb dX6_unsureToAsk_13 rfl (lv_at hl 3 rfl) ?_
        refine va_get (D := (dC, dI)) (ci := 6) (v := .ref oC) (C := RX6) (T := TX6) (N := 12) hx hb hts inX6 hown hK hP 0 rfl rfl 1 (by decide) (hts _ wd_20) (fun _ h9 => h9) rfl dX6_unsureToAsk_14 ?_
        refine va_get (D := (dC, dI)) (ci := 1) (v := .int iC_unsures) (C := RX1) (T := TX1) (N := 19) hx hb hts inX1 hown hK hP 1 rfl rfl 3 (by decide) (hts _ wd_1229) (fun _ h9 => h9) rfl dX6_unsureToAsk_17 ?_
        have rg_iC_unsures := fb_rng iC_unsures
        refine lv_icmp_ge (tgt := 54) hx hb dX6_unsureToAsk_20 (by decide) (fun c_5785 => ?_) (fun c_5785 => ?_)
        · skip
          have hG := hG.trans (if_pos c_5785)
          have gc_5785 := ti_le c_5785 rfl rfl
          refine lv_iload_n hx hb dX6_unsureToAsk_54 rfl (lv_at hl 2 rfl) ?_
          exact wq_i hx hb hr 0 ⟨⟨trivial, ⟨hi1_n_5783.1, hi1_n_5783.2⟩⟩, hG⟩ (fun t ht hW => Bw.to hP hD hK ht hW) hS dX6_unsureToAsk_55 hlocks
        · skip
          have hG := hG.trans (if_neg c_5785)
          have gc_5785 := ti_nle c_5785 rfl rfl
          refine lv_aload_n hx hb dX6_unsureToAsk_23 rfl (lv_at hl 3 rfl) ?_
          refine lv_iload_n hx hb dX6_unsureToAsk_24 rfl (lv_at hl 4 rfl) ?_
          refine lv_iload hx hb dX6_unsureToAsk_25 (lv_at hl 0 rfl) ?_
          have hFc := va_freeI hD hS hA
          refine va_calli (va_runV (As := [.int p0, .int z_5780]) (rest := []) ⟨hx, hb, hml, hown, hts⟩ (tX6_leftAtMost l dC dI _ oK oR oC oS oT rK_images iK_imageCount oA oH oL iK_refusal iK_latestFault iK_latestPlace iC_nodes iC_words iC_chances iC_unsures iC_slips iC_throneNode iC_saidWorth iC_unit rC_kind rC_parts rC_partNodes rC_weights rC_weightSums rC_toldWorths rC_steps rC_below rC_above rC_unsureWords rC_unsureWorths p0 z_5780 b_iK_imageCount b_iC_nodes b_iC_unsures b_iC_throneNode) (cwV 2 hts (wd_V wd_1230 wd_1231 wd_1232 wd_2 (wd_c wd_1233)) rfl rfl rfl dv_yX6_leftAtMost_2 ⟨Nat.le_of_ble_eq_true rfl, Nat.le_of_ble_eq_true rfl⟩) ⟨Pw.fb, recvX6 hK hP (q0 := 0) rfl, fun U hU hW => Pw.to hP hD hK hE hS hFc hU hW⟩ rfl rfl hl.1 rfl (lv_room (Nat.le_of_ble_eq_true rfl)) dX6_unsureToAsk_27 ⟨Nat.le_of_ble_eq_true rfl, Nat.le_of_ble_eq_true rfl⟩) hS (fun q _ h => hFc q h) hFc (fun r u t H locs ht hvm hw hB hz1 hk1 hS => ?_)
          have hru9 := hw.2
          have hw := hw.1
          obtain ⟨hP, hD⟩ := Bw.goA (ws' := [(oc6 oK oR oC oS oT rK_images iK_imageCount oA oH oL iK_refusal iK_latestFault iK_latestPlace), (oc1 oC iC_nodes iC_words iC_chances iC_unsures iC_slips iC_throneNode iC_saidWorth iC_unit rC_kind rC_parts rC_partNodes rC_weights rC_weightSums rC_toldWorths rC_steps rC_below rC_above rC_unsureWords rC_unsureWorths)]) hB rfl ht hFc rfl
          clear hz1 hk1 hvm ht hB
          obtain ⟨x_5786, rfl⟩ : ∃ z, z = r := ⟨_, rfl⟩
          have hG := hG.trans (lt_eq hru9.symm)
          have rg_x_5786 := fb_rng x_5786
          refine lv_istore (lv' := [(5, .int x_5786), (4, .int z_5780), (3, .int z_5782), (2, .int z_5781), (0, .ref oK), (1, .int p0)]) hx hb dX6_unsureToAsk_30 hl (by decide) rfl (fun ls hl => ?_)
          refine lv_iload_n hx hb dX6_unsureToAsk_32 rfl (lv_at hl 3 rfl) ?_
          refine lv_if_lt (tgt := 42) hx hb dX6_unsureToAsk_33 (by decide) (fun c_5787 => ?_) (fun c_5787 => ?_)
          · skip
            have hG := hG.trans (if_pos c_5787)
            have gc_5787 := ti_lt c_5787 rfl kc_0
            refine lv_iload hx hb dX6_unsureToAsk_42 (lv_at hl 1 rfl) ?_
            refine lv_istore_n (lv' := [(2, .int z_5780), (5, .int x_5786), (4, .int z_5780), (3, .int z_5782), (0, .ref oK), (1, .int p0)]) hx hb dX6_unsureToAsk_44 rfl hl (by decide) rfl (fun ls hl => ?_)
            refine lv_iload hx hb dX6_unsureToAsk_45 (lv_at hl 1 rfl) ?_
            refine lv_istore_n (lv' := [(3, .int x_5786), (2, .int z_5780), (5, .int x_5786), (4, .int z_5780), (0, .ref oK), (1, .int p0)]) hx hb dX6_unsureToAsk_47 rfl hl (by decide) rfl (fun ls hl => ?_)
            obtain ⟨x_5788, ex_5788⟩ : ∃ z : Int32, z = z_5780 + Int32.ofInt 1 := ⟨_, rfl⟩
            have hG := hG.trans (lt_eq ex_5788)
            have vx_5788 : x_5788.toInt = z_5780.toInt + 1 := ti_add (y := 1) ex_5788 rfl kc_1 (om_4e4fce7e hi0_n_5783.1) (om_0ca29412 b_iC_unsures.2 gc_5785)
            refine lv_iinc (v := x_5788) (lv' := [(4, .int x_5788), (3, .int x_5786), (2, .int z_5780), (5, .int x_5786), (0, .ref oK), (1, .int p0)]) hx hb dX6_unsureToAsk_48 hl (k := 3) rfl ex_5788.symm (by decide) rfl (fun ls hl => ?_)
            refine lv_goto (tgt := 7) hx hb dX6_unsureToAsk_51 (by decide) ?_
            exact ih_n_5783 x_5788 z_5780 x_5786 _ _ _  ⟨(om_83b90de5 hi0_n_5783.1 vx_5788), (om_008057e4 b_iC_unsures.2 gc_5785 vx_5788)⟩ ⟨(om_9b1c209f hi0_n_5783.1), (om_c9276b6d b_iC_unsures.2 gc_5785)⟩ (ms_lt hm_n_5783 (om_b9393183 vx_5788) (om_349eab4e b_iC_unsures.2 gc_5785)) hG hP hD hS (lv_sub hl [0, 1, 2, 4, 5] rfl)
          · skip
            have hG := hG.trans (if_neg c_5787)
            have gc_5787 := ti_nlt c_5787 rfl kc_0
            refine lv_iload hx hb dX6_unsureToAsk_36 (lv_at hl 0 rfl) ?_
            refine lv_iload_n hx hb dX6_unsureToAsk_38 rfl (lv_at hl 2 rfl) ?_
            refine lv_icmp_ge (tgt := 48) hx hb dX6_unsureToAsk_39 (by decide) (fun c_5789 => ?_) (fun c_5789 => ?_)
            · skip
              have hG := hG.trans (if_pos c_5789)
              have gc_5789 := ti_le c_5789 rfl rfl
              obtain ⟨x_5790, ex_5790⟩ : ∃ z : Int32, z = z_5780 + Int32.ofInt 1 := ⟨_, rfl⟩
              have hG := hG.trans (lt_eq ex_5790)
              have vx_5790 : x_5790.toInt = z_5780.toInt + 1 := ti_add (y := 1) ex_5790 rfl kc_1 (om_4e4fce7e hi0_n_5783.1) (om_0ca29412 b_iC_unsures.2 gc_5785)
              refine lv_iinc (v := x_5790) (lv' := [(4, .int x_5790), (5, .int x_5786), (3, .int z_5782), (2, .int z_5781), (0, .ref oK), (1, .int p0)]) hx hb dX6_unsureToAsk_48 hl (k := 1) rfl ex_5790.symm (by decide) rfl (fun ls hl => ?_)
              refine lv_goto (tgt := 7) hx hb dX6_unsureToAsk_51 (by decide) ?_
              exact ih_n_5783 x_5790 z_5781 z_5782 _ _ _  ⟨(om_83b90de5 hi0_n_5783.1 vx_5790), (om_008057e4 b_iC_unsures.2 gc_5785 vx_5790)⟩ ⟨hi1_n_5783.1, hi1_n_5783.2⟩ (ms_lt hm_n_5783 (om_b9393183 vx_5790) (om_349eab4e b_iC_unsures.2 gc_5785)) hG hP hD hS (lv_sub hl [0, 2, 3, 4, 5] rfl)
            · skip
              have hG := hG.trans (if_neg c_5789)
              have gc_5789 := ti_nle c_5789 rfl rfl
              refine lv_iload hx hb dX6_unsureToAsk_42 (lv_at hl 1 rfl) ?_
              refine lv_istore_n (lv' := [(2, .int z_5780), (5, .int x_5786), (4, .int z_5780), (3, .int z_5782), (0, .ref oK), (1, .int p0)]) hx hb dX6_unsureToAsk_44 rfl hl (by decide) rfl (fun ls hl => ?_)
              refine lv_iload hx hb dX6_unsureToAsk_45 (lv_at hl 1 rfl) ?_
              refine lv_istore_n (lv' := [(3, .int x_5786), (2, .int z_5780), (5, .int x_5786), (4, .int z_5780), (0, .ref oK), (1, .int p0)]) hx hb dX6_unsureToAsk_47 rfl hl (by decide) rfl (fun ls hl => ?_)
              obtain ⟨x_5791, ex_5791⟩ : ∃ z : Int32, z = z_5780 + Int32.ofInt 1 := ⟨_, rfl⟩
              have hG := hG.trans (lt_eq ex_5791)
              have vx_5791 : x_5791.toInt = z_5780.toInt + 1 := ti_add (y := 1) ex_5791 rfl kc_1 (om_4e4fce7e hi0_n_5783.1) (om_0ca29412 b_iC_unsures.2 gc_5785)
              refine lv_iinc (v := x_5791) (lv' := [(4, .int x_5791), (3, .int x_5786), (2, .int z_5780), (5, .int x_5786), (0, .ref oK), (1, .int p0)]) hx hb dX6_unsureToAsk_48 hl (k := 3) rfl ex_5791.symm (by decide) rfl (fun ls hl => ?_)
              refine lv_goto (tgt := 7) hx hb dX6_unsureToAsk_51 (by decide) ?_
              exact ih_n_5783 x_5791 z_5780 x_5786 _ _ _  ⟨(om_83b90de5 hi0_n_5783.1 vx_5791), (om_008057e4 b_iC_unsures.2 gc_5785 vx_5791)⟩ ⟨(om_9b1c209f hi0_n_5783.1), (om_c9276b6d b_iC_unsures.2 gc_5785)⟩ (ms_lt hm_n_5783 (om_b9393183 vx_5791) (om_349eab4e b_iC_unsures.2 gc_5785)) hG hP hD hS (lv_sub hl [0, 1, 2, 4, 5] rfl)
  exact key_n_5783 (((2147483647 - (0 : Int32).toInt).toNat) + 1) 0 (-1) 0 _ _ _  ⟨(om_b1de7dbe kc_0), (om_daf17c64 kc_0)⟩ ⟨(om_05aad589 kc_m1), (om_dd448aec kc_m1)⟩ (Nat.lt_add_one _) hG hP hD hS hl
set_option maxHeartbeats 4000000 in
set_option maxRecDepth 100000 in
theorem tX6_fits (l : Launch) (dC : Nat → ClassId) (dI : Nat → Nat → Nat) (sz : Nat) (oK : Nat) (oR : Nat) (oC : Nat) (oS : Nat) (oT : Nat) (rK_images : Nat) (iK_imageCount : Int32) (oA : Nat) (oH : Nat) (oL : Nat) (iK_refusal : Int32) (iK_latestFault : Int32) (iK_latestPlace : Int32) (iC_nodes : Int32) (iC_words : Int32) (iC_chances : Int32) (iC_unsures : Int32) (iC_slips : Int32) (iC_throneNode : Int32) (iC_saidWorth : Int32) (iC_unit : Int32) (rC_kind : Nat) (fC_kind : Nat → Int32) (kC_kind : ClassId) (rC_parts : Nat) (fC_parts : Nat → Int32) (kC_parts : ClassId) (rC_partNodes : Nat) (fC_partNodes : Nat → Int32) (kC_partNodes : ClassId) (rC_weights : Nat) (fC_weights : Nat → Int32) (kC_weights : ClassId) (rC_weightSums : Nat) (fC_weightSums : Nat → Int32) (kC_weightSums : ClassId) (rC_toldWorths : Nat) (fC_toldWorths : Nat → Int32) (kC_toldWorths : ClassId) (rC_steps : Nat) (rC_below : Nat) (rC_above : Nat) (rC_unsureWords : Nat) (fC_unsureWords : Nat → Int32) (kC_unsureWords : ClassId) (rC_unsureWorths : Nat) (fC_unsureWorths : Nat → Int32) (kC_unsureWorths : ClassId) (rL_values : Nat) (fL_values : Nat → Int32) (kL_values : ClassId) (rL_supposed : Nat) (fL_supposed : Nat → Int32) (kL_supposed : ClassId) (b_iK_imageCount : 0 ≤ iK_imageCount.toInt ∧ iK_imageCount.toInt ≤ 3) (b_iC_nodes : 0 ≤ iC_nodes.toInt ∧ iC_nodes.toInt ≤ 18) (b_iC_unsures : 0 ≤ iC_unsures.toInt ∧ iC_unsures.toInt ≤ 4) (b_iC_throneNode : (-1) ≤ iC_throneNode.toInt ∧ iC_throneNode.toInt ≤ 17) (a_fC_parts : ∀ j : Nat, j < 18 → 0 ≤ (fC_parts j).toInt ∧ (fC_parts j).toInt ≤ 4) (a_fC_partNodes : ∀ j : Nat, j < 72 → 0 ≤ (fC_partNodes j).toInt ∧ (fC_partNodes j).toInt ≤ 17) (a_fC_unsureWords : ∀ j : Nat, j < 4 → 0 ≤ (fC_unsureWords j).toInt ∧ (fC_unsureWords j).toInt ≤ 17)  : Met l yX6_fits (Cond.code yX6_fits cX6_fits 1 (some .int) :: wG) ({ frames := 5, cells := 0, slots := 0, locals := 118 }) (va_Pc [.ref oK] (Pw dC dI sz [(oc6 oK oR oC oS oT rK_images iK_imageCount oA oH oL iK_refusal iK_latestFault iK_latestPlace), (oc1 oC iC_nodes iC_words iC_chances iC_unsures iC_slips iC_throneNode iC_saidWorth iC_unit rC_kind rC_parts rC_partNodes rC_weights rC_weightSums rC_toldWorths rC_steps rC_below rC_above rC_unsureWords rC_unsureWorths), (arI rC_kind kC_kind 18 fC_kind), (arI rC_parts kC_parts 18 fC_parts), (arI rC_partNodes kC_partNodes 72 fC_partNodes), (arI rC_weights kC_weights 72 fC_weights), (arI rC_weightSums kC_weightSums 18 fC_weightSums), (arI rC_toldWorths kC_toldWorths 18 fC_toldWorths), (arI rC_unsureWords kC_unsureWords 4 fC_unsureWords), (arI rC_unsureWorths kC_unsureWorths 4 fC_unsureWorths), (oc4 oL rL_values rL_supposed), (arI rL_values kL_values 18 fL_values), (arI rL_supposed kL_supposed 18 fL_supposed)] [(kC_kind, .int), (kC_parts, .int), (kC_partNodes, .int), (kC_weights, .int), (kC_weightSums, .int), (kC_toldWorths, .int), (kC_unsureWords, .int), (kC_unsureWorths, .int), (kL_values, .int), (kL_supposed, .int)])) (va_Qi (fun (r : Int32) (u : Nat) => (True ∧ True) ∧ r = Int32.ofNat u) (fun (u : Nat) (t : State) => ∃ (niK_refusal : Int32) (nfL_values : Nat → Int32) (nfL_supposed : Nat → Int32), (PX6_fits iC_nodes iC_unsures iC_throneNode iC_saidWorth iC_unit fC_kind fC_parts fC_partNodes fC_weights fC_weightSums fC_toldWorths fC_unsureWords fC_unsureWorths fL_values fL_supposed = (Int32.ofNat u, niK_refusal, nfL_values, nfL_supposed)) ∧ Bw dC dI (va_A [(oc6 oK oR oC oS oT rK_images iK_imageCount oA oH oL iK_refusal iK_latestFault iK_latestPlace), (oc1 oC iC_nodes iC_words iC_chances iC_unsures iC_slips iC_throneNode iC_saidWorth iC_unit rC_kind rC_parts rC_partNodes rC_weights rC_weightSums rC_toldWorths rC_steps rC_below rC_above rC_unsureWords rC_unsureWorths), (arI rC_kind kC_kind 18 fC_kind), (arI rC_parts kC_parts 18 fC_parts), (arI rC_partNodes kC_partNodes 72 fC_partNodes), (arI rC_weights kC_weights 72 fC_weights), (arI rC_weightSums kC_weightSums 18 fC_weightSums), (arI rC_toldWorths kC_toldWorths 18 fC_toldWorths), (arI rC_unsureWords kC_unsureWords 4 fC_unsureWords), (arI rC_unsureWorths kC_unsureWorths 4 fC_unsureWorths), (oc4 oL rL_values rL_supposed), (arI rL_values kL_values 18 fL_values), (arI rL_supposed kL_supposed 18 fL_supposed)] sz) [(oc6 oK oR oC oS oT rK_images iK_imageCount oA oH oL niK_refusal iK_latestFault iK_latestPlace), (oc1 oC iC_nodes iC_words iC_chances iC_unsures iC_slips iC_throneNode iC_saidWorth iC_unit rC_kind rC_parts rC_partNodes rC_weights rC_weightSums rC_toldWorths rC_steps rC_below rC_above rC_unsureWords rC_unsureWorths), (arI rC_kind kC_kind 18 fC_kind), (arI rC_parts kC_parts 18 fC_parts), (arI rC_partNodes kC_partNodes 72 fC_partNodes), (arI rC_weights kC_weights 72 fC_weights), (arI rC_weightSums kC_weightSums 18 fC_weightSums), (arI rC_toldWorths kC_toldWorths 18 fC_toldWorths), (arI rC_unsureWords kC_unsureWords 4 fC_unsureWords), (arI rC_unsureWorths kC_unsureWorths 4 fC_unsureWorths), (oc4 oL rL_values rL_supposed), (arI rL_values kL_values 18 nfL_values), (arI rL_supposed kL_supposed 18 nfL_supposed)] [(kC_kind, .int), (kC_parts, .int), (kC_partNodes, .int), (kC_weights, .int), (kC_weightSums, .int), (kC_toldWorths, .int), (kC_unsureWords, .int), (kC_unsureWorths, .int), (kL_values, .int), (kL_supposed, .int)] t) (va_A [(oc6 oK oR oC oS oT rK_images iK_imageCount oA oH oL iK_refusal iK_latestFault iK_latestPlace), (oc1 oC iC_nodes iC_words iC_chances iC_unsures iC_slips iC_throneNode iC_saidWorth iC_unit rC_kind rC_parts rC_partNodes rC_weights rC_weightSums rC_toldWorths rC_steps rC_below rC_above rC_unsureWords rC_unsureWorths), (arI rC_kind kC_kind 18 fC_kind), (arI rC_parts kC_parts 18 fC_parts), (arI rC_partNodes kC_partNodes 72 fC_partNodes), (arI rC_weights kC_weights 72 fC_weights), (arI rC_weightSums kC_weightSums 18 fC_weightSums), (arI rC_toldWorths kC_toldWorths 18 fC_toldWorths), (arI rC_unsureWords kC_unsureWords 4 fC_unsureWords), (arI rC_unsureWorths kC_unsureWorths 4 fC_unsureWorths), (oc4 oL rL_values rL_supposed), (arI rL_values kL_values 18 fL_values), (arI rL_supposed kL_supposed 18 fL_supposed)] sz)) 0 0 (va_A [(oc6 oK oR oC oS oT rK_images iK_imageCount oA oH oL iK_refusal iK_latestFault iK_latestPlace), (oc1 oC iC_nodes iC_words iC_chances iC_unsures iC_slips iC_throneNode iC_saidWorth iC_unit rC_kind rC_parts rC_partNodes rC_weights rC_weightSums rC_toldWorths rC_steps rC_below rC_above rC_unsureWords rC_unsureWorths), (arI rC_kind kC_kind 18 fC_kind), (arI rC_parts kC_parts 18 fC_parts), (arI rC_partNodes kC_partNodes 72 fC_partNodes), (arI rC_weights kC_weights 72 fC_weights), (arI rC_weightSums kC_weightSums 18 fC_weightSums), (arI rC_toldWorths kC_toldWorths 18 fC_toldWorths), (arI rC_unsureWords kC_unsureWords 4 fC_unsureWords), (arI rC_unsureWorths kC_unsureWorths 4 fC_unsureWorths), (oc4 oL rL_values rL_supposed), (arI rL_values kL_values 18 fL_values), (arI rL_supposed kL_supposed 18 fL_supposed)] sz) := by
  refine Met.ofW (cc := cX6_fits) (maxL := 1) (ret := (some .int)) pnX6 rfl ?_
  intro p e s m args below meth c s₁ B hml hv
  obtain ⟨rfl, hsz, hP, hK, hD0, hE⟩ := hv
  have hx := B.exec
  have hb := B.bytes
  have hr := B.returns
  have hts : ∀ w ∈ wG, w.before ([.ref oK] : List Value).toArray s = true := fun w h => atoms_spec (ws := Cond.code yX6_fits cX6_fits 1 (some .int) :: wG) B.pre w (List.mem_cons_of_mem _ h)
  have hown : s.vm.findClass RX6 = some m.cls := own_of B.named rfl
  have hlocks := B.notSynchronized
  subst hsz
  have hD := hD0.self (sz := s.heap.size)
  generalize hAe : va_A [(oc6 oK oR oC oS oT rK_images iK_imageCount oA oH oL iK_refusal iK_latestFault iK_latestPlace), (oc1 oC iC_nodes iC_words iC_chances iC_unsures iC_slips iC_throneNode iC_saidWorth iC_unit rC_kind rC_parts rC_partNodes rC_weights rC_weightSums rC_toldWorths rC_steps rC_below rC_above rC_unsureWords rC_unsureWorths), (arI rC_kind kC_kind 18 fC_kind), (arI rC_parts kC_parts 18 fC_parts), (arI rC_partNodes kC_partNodes 72 fC_partNodes), (arI rC_weights kC_weights 72 fC_weights), (arI rC_weightSums kC_weightSums 18 fC_weightSums), (arI rC_toldWorths kC_toldWorths 18 fC_toldWorths), (arI rC_unsureWords kC_unsureWords 4 fC_unsureWords), (arI rC_unsureWorths kC_unsureWorths 4 fC_unsureWorths), (oc4 oL rL_values rL_supposed), (arI rL_values kL_values 18 fL_values), (arI rL_supposed kL_supposed 18 fL_supposed)] s.heap.size = A at hD hE ⊢
  have hA : ∀ q : Nat, s.heap.size ≤ q → A q := fun q h => by rw [← hAe]; exact Or.inr h
  have hS : va_S A s.heap s.heap [] := va_S.rf
  have hl := lv_entry ([.ref oK]) (n := 1) (Nat.le_of_ble_eq_true rfl)
  rw [lg_entry_eq]
  generalize (lg_sl ([.ref oK]) ++ List.replicate (1 - (lg_sl ([.ref oK])).length) Slot.unset).toArray = ls at hl ⊢
  have hl : lv_has ls 1 [(0, .ref oK)] := hl
  have hG := PX6_fits_eq iC_nodes iC_unsures iC_throneNode iC_saidWorth iC_unit fC_kind fC_parts fC_partNodes fC_weights fC_weightSums fC_toldWorths fC_unsureWords fC_unsureWorths fL_values fL_supposed
  refine lv_aload_n hx hb dX6_fits_0 rfl (lv_at hl 0 rfl) ?_
  have hMs := ml_of hD [true, true, false, false, false, false, false, false, false, false, false, false, false] (wc := [(oc6 oK oR oC oS oT rK_images iK_imageCount oA oH oL iK_refusal iK_latestFault iK_latestPlace), (oc1 oC iC_nodes iC_words iC_chances iC_unsures iC_slips iC_throneNode iC_saidWorth iC_unit rC_kind rC_parts rC_partNodes rC_weights rC_weightSums rC_toldWorths rC_steps rC_below rC_above rC_unsureWords rC_unsureWorths)]) rfl
  have hFc := va_freeM hD hS hA _ hMs
  refine va_calli (va_runV (As := []) (rest := []) ⟨hx, hb, hml, hown, hts⟩ (tX6_lacksCourt l dC dI _ oK oR oC oS oT rK_images iK_imageCount oA oH oL iK_refusal iK_latestFault iK_latestPlace iC_nodes iC_words iC_chances iC_unsures iC_slips iC_throneNode iC_saidWorth iC_unit rC_kind rC_parts rC_partNodes rC_weights rC_weightSums rC_toldWorths rC_steps rC_below rC_above rC_unsureWords rC_unsureWorths b_iK_imageCount b_iC_nodes b_iC_unsures b_iC_throneNode) (cwV 0 hts (wd_V wd_596 wd_597 wd_598 wd_2 (wd_c wd_599)) rfl rfl rfl dv_yX6_lacksCourt_0 ⟨Nat.le_of_ble_eq_true rfl, Nat.le_of_ble_eq_true rfl⟩) ⟨Pw.fb, recvX6 hK hP (q0 := 0) rfl, fun U hU hW => Pw.to (hP.ms _ hMs) (hD.ms _ hMs) (hK.ms [false, false, false, false, false, false, false, false, false, false] rfl) hE hS hFc hU hW⟩ rfl rfl hl.1 rfl (lv_room (Nat.le_of_ble_eq_true rfl)) dX6_fits_1 ⟨Nat.le_of_ble_eq_true rfl, Nat.le_of_ble_eq_true rfl⟩) hS (fun q _ h => hFc q h) hFc (fun r u t H locs ht hvm hw hB hz1 hk1 hS => ?_)
  have hru9 := hw.2
  have hw := hw.1
  refine ex_1_2 hB (fun x_5800 b_x_5800 e_x_5800_0 hB => ?_)
  obtain ⟨hP, hD⟩ := Bw.goN (ws' := [(oc6 oK oR oC oS oT rK_images iK_imageCount oA oH oL x_5800 iK_latestFault iK_latestPlace), (oc1 oC iC_nodes iC_words iC_chances iC_unsures iC_slips iC_throneNode iC_saidWorth iC_unit rC_kind rC_parts rC_partNodes rC_weights rC_weightSums rC_toldWorths rC_steps rC_below rC_above rC_unsureWords rC_unsureWorths), (arI rC_kind kC_kind 18 fC_kind), (arI rC_parts kC_parts 18 fC_parts), (arI rC_partNodes kC_partNodes 72 fC_partNodes), (arI rC_weights kC_weights 72 fC_weights), (arI rC_weightSums kC_weightSums 18 fC_weightSums), (arI rC_toldWorths kC_toldWorths 18 fC_toldWorths), (arI rC_unsureWords kC_unsureWords 4 fC_unsureWords), (arI rC_unsureWorths kC_unsureWorths 4 fC_unsureWorths), (oc4 oL rL_values rL_supposed), (arI rL_values kL_values 18 fL_values), (arI rL_supposed kL_supposed 18 fL_supposed)]) hB rfl ht hP hD _ hMs hk1 hFc rfl
  clear hz1 hk1 hvm ht hB hMs
  rw [← hru9] at e_x_5800_0
  rcases hw.2 with ⟨rfl, hc_5801⟩ | ⟨rfl, hc_5801⟩
  · skip
    have hG := hG.trans (un2_eq e_x_5800_0)
    have hG := hG.trans (if_pos rfl)
    refine lv_if_eq (tgt := 11) hx hb dX6_fits_4 (by decide) (fun _ => ?_) (fun c => absurd c (by decide))
    refine lv_aload_n hx hb dX6_fits_11 rfl (lv_at hl 0 rfl) ?_
    have hFc := va_freeI hD hS hA
    refine va_calli (va_runV (As := []) (rest := []) ⟨hx, hb, hml, hown, hts⟩ (tX6_fittingSets l dC dI _ oK oR oC oS oT rK_images iK_imageCount oA oH oL x_5800 iK_latestFault iK_latestPlace iC_nodes iC_words iC_chances iC_unsures iC_slips iC_throneNode iC_saidWorth iC_unit rC_kind fC_kind kC_kind rC_parts fC_parts kC_parts rC_partNodes fC_partNodes kC_partNodes rC_weights fC_weights kC_weights rC_weightSums fC_weightSums kC_weightSums rC_toldWorths fC_toldWorths kC_toldWorths rC_steps rC_below rC_above rC_unsureWords fC_unsureWords kC_unsureWords rC_unsureWorths fC_unsureWorths kC_unsureWorths rL_values fL_values kL_values rL_supposed fL_supposed kL_supposed b_iK_imageCount b_iC_nodes b_iC_unsures b_iC_throneNode a_fC_parts a_fC_partNodes a_fC_unsureWords) (cwV 0 hts (wd_V wd_1159 wd_1160 wd_1161 wd_2 (wd_c wd_1162)) rfl rfl rfl dv_yX6_fittingSets_0 ⟨Nat.le_of_ble_eq_true rfl, Nat.le_of_ble_eq_true rfl⟩) ⟨Pw.fb, recvX6 hK hP (q0 := 0) rfl, fun U hU hW => Pw.to hP hD hK hE hS hFc hU hW⟩ rfl rfl hl.1 rfl (lv_room (Nat.le_of_ble_eq_true rfl)) dX6_fits_12 ⟨Nat.le_of_ble_eq_true rfl, Nat.le_of_ble_eq_true rfl⟩) hS (fun q _ h => hFc q h) hFc (fun r u t H locs ht hvm hw hB hz1 hk1 hS => ?_)
    have hru9 := hw.2
    have hw := hw.1
    refine ex_2_1 hB (fun f_5804 f_5805 e_f_5804_0 hB => ?_)
    obtain ⟨hP, hD⟩ := Bw.goA (ws' := [(oc6 oK oR oC oS oT rK_images iK_imageCount oA oH oL x_5800 iK_latestFault iK_latestPlace), (oc1 oC iC_nodes iC_words iC_chances iC_unsures iC_slips iC_throneNode iC_saidWorth iC_unit rC_kind rC_parts rC_partNodes rC_weights rC_weightSums rC_toldWorths rC_steps rC_below rC_above rC_unsureWords rC_unsureWorths), (arI rC_kind kC_kind 18 fC_kind), (arI rC_parts kC_parts 18 fC_parts), (arI rC_partNodes kC_partNodes 72 fC_partNodes), (arI rC_weights kC_weights 72 fC_weights), (arI rC_weightSums kC_weightSums 18 fC_weightSums), (arI rC_toldWorths kC_toldWorths 18 fC_toldWorths), (arI rC_unsureWords kC_unsureWords 4 fC_unsureWords), (arI rC_unsureWorths kC_unsureWorths 4 fC_unsureWorths), (oc4 oL rL_values rL_supposed), (arI rL_values kL_values 18 f_5804), (arI rL_supposed kL_supposed 18 f_5805)]) hB rfl ht hFc rfl
    clear hz1 hk1 hvm ht hB
    rw [← hru9] at e_f_5804_0
    obtain ⟨x_5806, rfl⟩ : ∃ z, z = r := ⟨_, rfl⟩
    have hG := hG.trans (un3_eq e_f_5804_0)
    have hFc : ∀ q, va_A [] _ q → A q := fun q h => hA q (Nat.le_trans hS.1 (va_nilA h))
    refine va_calli (va_runS (As := [.int x_5806]) (rest := []) ⟨hx, hb, hml, hown, hts⟩ (tJ6_bitCount_0f7a4 l dC dI _ x_5806 ) (va_cwS 1 hts (wd_S wd_950 wd_951 wd_952 (wd_c wd_953)) rfl rfl rfl ds_yJ6_bitCount_0f7a4_1 ⟨Nat.le_of_ble_eq_true rfl, Nat.le_of_ble_eq_true rfl⟩) ⟨Pw.fb, fun U hU hW => Pn.to hK hE hS hA hU hW⟩ rfl rfl hl.1 rfl (lv_room (Nat.le_of_ble_eq_true rfl)) dX6_fits_15 ⟨Nat.le_of_ble_eq_true rfl, Nat.le_of_ble_eq_true rfl⟩) hS (fun q _ h => hFc q h) hFc (fun r u t H locs ht hvm hw hB hz1 hk1 hS => ?_)
    obtain ⟨hP, hD, hK⟩ := Bw.same ht hvm hP hD hK hk1 hFc
    clear hz1 hk1 hvm ht hB
    have hq9 := hw.2
    have hw := hw.1
    obtain ⟨x_5807, rfl⟩ : ∃ z, z = r := ⟨_, rfl⟩
    have hq_x_5807 := hq9
    have hG := hG.trans (lt_eq hq_x_5807.symm)
    exact wq_i hx hb hr (cI x_5807) ⟨⟨trivial, trivial⟩, (cI_of x_5807)⟩ (fun t ht hW => ⟨x_5800, f_5804, f_5805, (cI_tup hG), Bw.to hP hD hK ht hW⟩) hS dX6_fits_18 hlocks
  · skip
    have hG := hG.trans (un2_eq e_x_5800_0)
    have hG := hG.trans (if_neg (by decide))
    refine lv_if_eq (tgt := 11) hx hb dX6_fits_4 (by decide) (fun c => absurd c (by decide)) (fun _ => ?_)
    refine lv_iconst (v := (-1)) hx hb dX6_fits_7 (by decide) ?_
    refine lv_goto (tgt := 18) hx hb dX6_fits_8 (by decide) ?_
    exact wq_i hx hb hr (cI (-1)) ⟨⟨trivial, trivial⟩, (cI_of (-1))⟩ (fun t ht hW => ⟨x_5800, fL_values, fL_supposed, (cI_tup hG), Bw.to hP hD hK ht hW⟩) hS dX6_fits_18 hlocks
set_option maxHeartbeats 4000000 in
set_option maxRecDepth 100000 in
theorem tX6_could (l : Launch) (dC : Nat → ClassId) (dI : Nat → Nat → Nat) (sz : Nat) (oK : Nat) (oR : Nat) (oC : Nat) (oS : Nat) (oT : Nat) (rK_images : Nat) (iK_imageCount : Int32) (oA : Nat) (oH : Nat) (oL : Nat) (iK_refusal : Int32) (iK_latestFault : Int32) (iK_latestPlace : Int32) (iC_nodes : Int32) (iC_words : Int32) (iC_chances : Int32) (iC_unsures : Int32) (iC_slips : Int32) (iC_throneNode : Int32) (iC_saidWorth : Int32) (iC_unit : Int32) (rC_kind : Nat) (fC_kind : Nat → Int32) (kC_kind : ClassId) (rC_parts : Nat) (fC_parts : Nat → Int32) (kC_parts : ClassId) (rC_partNodes : Nat) (fC_partNodes : Nat → Int32) (kC_partNodes : ClassId) (rC_weights : Nat) (fC_weights : Nat → Int32) (kC_weights : ClassId) (rC_weightSums : Nat) (fC_weightSums : Nat → Int32) (kC_weightSums : ClassId) (rC_toldWorths : Nat) (fC_toldWorths : Nat → Int32) (kC_toldWorths : ClassId) (rC_steps : Nat) (rC_below : Nat) (rC_above : Nat) (rC_unsureWords : Nat) (fC_unsureWords : Nat → Int32) (kC_unsureWords : ClassId) (rC_unsureWorths : Nat) (fC_unsureWorths : Nat → Int32) (kC_unsureWorths : ClassId) (rL_values : Nat) (fL_values : Nat → Int32) (kL_values : ClassId) (rL_supposed : Nat) (fL_supposed : Nat → Int32) (kL_supposed : ClassId) (b_iK_imageCount : 0 ≤ iK_imageCount.toInt ∧ iK_imageCount.toInt ≤ 3) (b_iC_nodes : 0 ≤ iC_nodes.toInt ∧ iC_nodes.toInt ≤ 18) (b_iC_unsures : 0 ≤ iC_unsures.toInt ∧ iC_unsures.toInt ≤ 4) (b_iC_throneNode : (-1) ≤ iC_throneNode.toInt ∧ iC_throneNode.toInt ≤ 17) (a_fC_parts : ∀ j : Nat, j < 18 → 0 ≤ (fC_parts j).toInt ∧ (fC_parts j).toInt ≤ 4) (a_fC_partNodes : ∀ j : Nat, j < 72 → 0 ≤ (fC_partNodes j).toInt ∧ (fC_partNodes j).toInt ≤ 17) (a_fC_unsureWords : ∀ j : Nat, j < 4 → 0 ≤ (fC_unsureWords j).toInt ∧ (fC_unsureWords j).toInt ≤ 17)  : Met l yX6_could (Cond.code yX6_could cX6_could 4 (some .int) :: wG) ({ frames := 5, cells := 0, slots := 0, locals := 118 }) (va_Pc [.ref oK] (Pw dC dI sz [(oc6 oK oR oC oS oT rK_images iK_imageCount oA oH oL iK_refusal iK_latestFault iK_latestPlace), (oc1 oC iC_nodes iC_words iC_chances iC_unsures iC_slips iC_throneNode iC_saidWorth iC_unit rC_kind rC_parts rC_partNodes rC_weights rC_weightSums rC_toldWorths rC_steps rC_below rC_above rC_unsureWords rC_unsureWorths), (arI rC_kind kC_kind 18 fC_kind), (arI rC_parts kC_parts 18 fC_parts), (arI rC_partNodes kC_partNodes 72 fC_partNodes), (arI rC_weights kC_weights 72 fC_weights), (arI rC_weightSums kC_weightSums 18 fC_weightSums), (arI rC_toldWorths kC_toldWorths 18 fC_toldWorths), (arI rC_unsureWords kC_unsureWords 4 fC_unsureWords), (arI rC_unsureWorths kC_unsureWorths 4 fC_unsureWorths), (oc4 oL rL_values rL_supposed), (arI rL_values kL_values 18 fL_values), (arI rL_supposed kL_supposed 18 fL_supposed)] [(kC_kind, .int), (kC_parts, .int), (kC_partNodes, .int), (kC_weights, .int), (kC_weightSums, .int), (kC_toldWorths, .int), (kC_unsureWords, .int), (kC_unsureWorths, .int), (kL_values, .int), (kL_supposed, .int)])) (va_Qi (fun (r : Int32) (u : Nat) => (True ∧ True) ∧ r = Int32.ofNat u) (fun (u : Nat) (t : State) => ∃ (niK_refusal : Int32) (nfL_values : Nat → Int32) (nfL_supposed : Nat → Int32), (PX6_could iC_nodes iC_unsures iC_throneNode iC_saidWorth iC_unit fC_kind fC_parts fC_partNodes fC_weights fC_weightSums fC_toldWorths fC_unsureWords fC_unsureWorths fL_values fL_supposed = (Int32.ofNat u, niK_refusal, nfL_values, nfL_supposed)) ∧ Bw dC dI (va_A [(oc6 oK oR oC oS oT rK_images iK_imageCount oA oH oL iK_refusal iK_latestFault iK_latestPlace), (oc1 oC iC_nodes iC_words iC_chances iC_unsures iC_slips iC_throneNode iC_saidWorth iC_unit rC_kind rC_parts rC_partNodes rC_weights rC_weightSums rC_toldWorths rC_steps rC_below rC_above rC_unsureWords rC_unsureWorths), (arI rC_kind kC_kind 18 fC_kind), (arI rC_parts kC_parts 18 fC_parts), (arI rC_partNodes kC_partNodes 72 fC_partNodes), (arI rC_weights kC_weights 72 fC_weights), (arI rC_weightSums kC_weightSums 18 fC_weightSums), (arI rC_toldWorths kC_toldWorths 18 fC_toldWorths), (arI rC_unsureWords kC_unsureWords 4 fC_unsureWords), (arI rC_unsureWorths kC_unsureWorths 4 fC_unsureWorths), (oc4 oL rL_values rL_supposed), (arI rL_values kL_values 18 fL_values), (arI rL_supposed kL_supposed 18 fL_supposed)] sz) [(oc6 oK oR oC oS oT rK_images iK_imageCount oA oH oL niK_refusal iK_latestFault iK_latestPlace), (oc1 oC iC_nodes iC_words iC_chances iC_unsures iC_slips iC_throneNode iC_saidWorth iC_unit rC_kind rC_parts rC_partNodes rC_weights rC_weightSums rC_toldWorths rC_steps rC_below rC_above rC_unsureWords rC_unsureWorths), (arI rC_kind kC_kind 18 fC_kind), (arI rC_parts kC_parts 18 fC_parts), (arI rC_partNodes kC_partNodes 72 fC_partNodes), (arI rC_weights kC_weights 72 fC_weights), (arI rC_weightSums kC_weightSums 18 fC_weightSums), (arI rC_toldWorths kC_toldWorths 18 fC_toldWorths), (arI rC_unsureWords kC_unsureWords 4 fC_unsureWords), (arI rC_unsureWorths kC_unsureWorths 4 fC_unsureWorths), (oc4 oL rL_values rL_supposed), (arI rL_values kL_values 18 nfL_values), (arI rL_supposed kL_supposed 18 nfL_supposed)] [(kC_kind, .int), (kC_parts, .int), (kC_partNodes, .int), (kC_weights, .int), (kC_weightSums, .int), (kC_toldWorths, .int), (kC_unsureWords, .int), (kC_unsureWorths, .int), (kL_values, .int), (kL_supposed, .int)] t) (va_A [(oc6 oK oR oC oS oT rK_images iK_imageCount oA oH oL iK_refusal iK_latestFault iK_latestPlace), (oc1 oC iC_nodes iC_words iC_chances iC_unsures iC_slips iC_throneNode iC_saidWorth iC_unit rC_kind rC_parts rC_partNodes rC_weights rC_weightSums rC_toldWorths rC_steps rC_below rC_above rC_unsureWords rC_unsureWorths), (arI rC_kind kC_kind 18 fC_kind), (arI rC_parts kC_parts 18 fC_parts), (arI rC_partNodes kC_partNodes 72 fC_partNodes), (arI rC_weights kC_weights 72 fC_weights), (arI rC_weightSums kC_weightSums 18 fC_weightSums), (arI rC_toldWorths kC_toldWorths 18 fC_toldWorths), (arI rC_unsureWords kC_unsureWords 4 fC_unsureWords), (arI rC_unsureWorths kC_unsureWorths 4 fC_unsureWorths), (oc4 oL rL_values rL_supposed), (arI rL_values kL_values 18 fL_values), (arI rL_supposed kL_supposed 18 fL_supposed)] sz)) 0 0 (va_A [(oc6 oK oR oC oS oT rK_images iK_imageCount oA oH oL iK_refusal iK_latestFault iK_latestPlace), (oc1 oC iC_nodes iC_words iC_chances iC_unsures iC_slips iC_throneNode iC_saidWorth iC_unit rC_kind rC_parts rC_partNodes rC_weights rC_weightSums rC_toldWorths rC_steps rC_below rC_above rC_unsureWords rC_unsureWorths), (arI rC_kind kC_kind 18 fC_kind), (arI rC_parts kC_parts 18 fC_parts), (arI rC_partNodes kC_partNodes 72 fC_partNodes), (arI rC_weights kC_weights 72 fC_weights), (arI rC_weightSums kC_weightSums 18 fC_weightSums), (arI rC_toldWorths kC_toldWorths 18 fC_toldWorths), (arI rC_unsureWords kC_unsureWords 4 fC_unsureWords), (arI rC_unsureWorths kC_unsureWorths 4 fC_unsureWorths), (oc4 oL rL_values rL_supposed), (arI rL_values kL_values 18 fL_values), (arI rL_supposed kL_supposed 18 fL_supposed)] sz) := by
  refine Met.ofW (cc := cX6_could) (maxL := 4) (ret := (some .int)) pnX6 rfl ?_
  intro p e s m args below meth c s₁ B hml hv
  obtain ⟨rfl, hsz, hP, hK, hD0, hE⟩ := hv
  have hx := B.exec
  have hb := B.bytes
  have hr := B.returns
  have hts : ∀ w ∈ wG, w.before ([.ref oK] : List Value).toArray s = true := fun w h => atoms_spec (ws := Cond.code yX6_could cX6_could 4 (some .int) :: wG) B.pre w (List.mem_cons_of_mem _ h)
  have hown : s.vm.findClass RX6 = some m.cls := own_of B.named rfl
  have hlocks := B.notSynchronized
  subst hsz
  have hD := hD0.self (sz := s.heap.size)
  generalize hAe : va_A [(oc6 oK oR oC oS oT rK_images iK_imageCount oA oH oL iK_refusal iK_latestFault iK_latestPlace), (oc1 oC iC_nodes iC_words iC_chances iC_unsures iC_slips iC_throneNode iC_saidWorth iC_unit rC_kind rC_parts rC_partNodes rC_weights rC_weightSums rC_toldWorths rC_steps rC_below rC_above rC_unsureWords rC_unsureWorths), (arI rC_kind kC_kind 18 fC_kind), (arI rC_parts kC_parts 18 fC_parts), (arI rC_partNodes kC_partNodes 72 fC_partNodes), (arI rC_weights kC_weights 72 fC_weights), (arI rC_weightSums kC_weightSums 18 fC_weightSums), (arI rC_toldWorths kC_toldWorths 18 fC_toldWorths), (arI rC_unsureWords kC_unsureWords 4 fC_unsureWords), (arI rC_unsureWorths kC_unsureWorths 4 fC_unsureWorths), (oc4 oL rL_values rL_supposed), (arI rL_values kL_values 18 fL_values), (arI rL_supposed kL_supposed 18 fL_supposed)] s.heap.size = A at hD hE ⊢
  have hA : ∀ q : Nat, s.heap.size ≤ q → A q := fun q h => by rw [← hAe]; exact Or.inr h
  have hS : va_S A s.heap s.heap [] := va_S.rf
  have hl := lv_entry ([.ref oK]) (n := 4) (Nat.le_of_ble_eq_true rfl)
  rw [lg_entry_eq]
  generalize (lg_sl ([.ref oK]) ++ List.replicate (4 - (lg_sl ([.ref oK])).length) Slot.unset).toArray = ls at hl ⊢
  have hl : lv_has ls 4 [(0, .ref oK)] := hl
  have hG := PX6_could_eq iC_nodes iC_unsures iC_throneNode iC_saidWorth iC_unit fC_kind fC_parts fC_partNodes fC_weights fC_weightSums fC_toldWorths fC_unsureWords fC_unsureWorths fL_values fL_supposed
  refine lv_aload_n hx hb dX6_could_0 rfl (lv_at hl 0 rfl) ?_
  have hMs := ml_of hD [true, true, false, false, false, false, false, false, false, false, false, false, false] (wc := [(oc6 oK oR oC oS oT rK_images iK_imageCount oA oH oL iK_refusal iK_latestFault iK_latestPlace), (oc1 oC iC_nodes iC_words iC_chances iC_unsures iC_slips iC_throneNode iC_saidWorth iC_unit rC_kind rC_parts rC_partNodes rC_weights rC_weightSums rC_toldWorths rC_steps rC_below rC_above rC_unsureWords rC_unsureWorths)]) rfl
  have hFc := va_freeM hD hS hA _ hMs
  refine va_calli (va_runV (As := []) (rest := []) ⟨hx, hb, hml, hown, hts⟩ (tX6_lacksCourt l dC dI _ oK oR oC oS oT rK_images iK_imageCount oA oH oL iK_refusal iK_latestFault iK_latestPlace iC_nodes iC_words iC_chances iC_unsures iC_slips iC_throneNode iC_saidWorth iC_unit rC_kind rC_parts rC_partNodes rC_weights rC_weightSums rC_toldWorths rC_steps rC_below rC_above rC_unsureWords rC_unsureWorths b_iK_imageCount b_iC_nodes b_iC_unsures b_iC_throneNode) (cwV 0 hts (wd_V wd_596 wd_597 wd_598 wd_2 (wd_c wd_599)) rfl rfl rfl dv_yX6_lacksCourt_0 ⟨Nat.le_of_ble_eq_true rfl, Nat.le_of_ble_eq_true rfl⟩) ⟨Pw.fb, recvX6 hK hP (q0 := 0) rfl, fun U hU hW => Pw.to (hP.ms _ hMs) (hD.ms _ hMs) (hK.ms [false, false, false, false, false, false, false, false, false, false] rfl) hE hS hFc hU hW⟩ rfl rfl hl.1 rfl (lv_room (Nat.le_of_ble_eq_true rfl)) dX6_could_1 ⟨Nat.le_of_ble_eq_true rfl, Nat.le_of_ble_eq_true rfl⟩) hS (fun q _ h => hFc q h) hFc (fun r u t H locs ht hvm hw hB hz1 hk1 hS => ?_)
  have hru9 := hw.2
  have hw := hw.1
  refine ex_1_2 hB (fun x_5843 b_x_5843 e_x_5843_0 hB => ?_)
  obtain ⟨hP, hD⟩ := Bw.goN (ws' := [(oc6 oK oR oC oS oT rK_images iK_imageCount oA oH oL x_5843 iK_latestFault iK_latestPlace), (oc1 oC iC_nodes iC_words iC_chances iC_unsures iC_slips iC_throneNode iC_saidWorth iC_unit rC_kind rC_parts rC_partNodes rC_weights rC_weightSums rC_toldWorths rC_steps rC_below rC_above rC_unsureWords rC_unsureWorths), (arI rC_kind kC_kind 18 fC_kind), (arI rC_parts kC_parts 18 fC_parts), (arI rC_partNodes kC_partNodes 72 fC_partNodes), (arI rC_weights kC_weights 72 fC_weights), (arI rC_weightSums kC_weightSums 18 fC_weightSums), (arI rC_toldWorths kC_toldWorths 18 fC_toldWorths), (arI rC_unsureWords kC_unsureWords 4 fC_unsureWords), (arI rC_unsureWorths kC_unsureWorths 4 fC_unsureWorths), (oc4 oL rL_values rL_supposed), (arI rL_values kL_values 18 fL_values), (arI rL_supposed kL_supposed 18 fL_supposed)]) hB rfl ht hP hD _ hMs hk1 hFc rfl
  clear hz1 hk1 hvm ht hB hMs
  have rg_x_5843 := fb_rng x_5843
  rw [← hru9] at e_x_5843_0
  rcases hw.2 with ⟨rfl, hc_5844⟩ | ⟨rfl, hc_5844⟩
  · skip
    have rg_iC_nodes := fb_rng iC_nodes
    have hG := hG.trans (un2_eq e_x_5843_0)
    have hG := hG.trans (if_pos rfl)
    refine lv_if_eq (tgt := 9) hx hb dX6_could_4 (by decide) (fun _ => ?_) (fun c => absurd c (by decide))
    refine lv_aload_n hx hb dX6_could_9 rfl (lv_at hl 0 rfl) ?_
    have hFc := va_freeI hD hS hA
    refine va_calli (va_runV (As := []) (rest := []) ⟨hx, hb, hml, hown, hts⟩ (tX6_fittingSets l dC dI _ oK oR oC oS oT rK_images iK_imageCount oA oH oL x_5843 iK_latestFault iK_latestPlace iC_nodes iC_words iC_chances iC_unsures iC_slips iC_throneNode iC_saidWorth iC_unit rC_kind fC_kind kC_kind rC_parts fC_parts kC_parts rC_partNodes fC_partNodes kC_partNodes rC_weights fC_weights kC_weights rC_weightSums fC_weightSums kC_weightSums rC_toldWorths fC_toldWorths kC_toldWorths rC_steps rC_below rC_above rC_unsureWords fC_unsureWords kC_unsureWords rC_unsureWorths fC_unsureWorths kC_unsureWorths rL_values fL_values kL_values rL_supposed fL_supposed kL_supposed b_iK_imageCount b_iC_nodes b_iC_unsures b_iC_throneNode a_fC_parts a_fC_partNodes a_fC_unsureWords) (cwV 0 hts (wd_V wd_1159 wd_1160 wd_1161 wd_2 (wd_c wd_1162)) rfl rfl rfl dv_yX6_fittingSets_0 ⟨Nat.le_of_ble_eq_true rfl, Nat.le_of_ble_eq_true rfl⟩) ⟨Pw.fb, recvX6 hK hP (q0 := 0) rfl, fun U hU hW => Pw.to hP hD hK hE hS hFc hU hW⟩ rfl rfl hl.1 rfl (lv_room (Nat.le_of_ble_eq_true rfl)) dX6_could_10 ⟨Nat.le_of_ble_eq_true rfl, Nat.le_of_ble_eq_true rfl⟩) hS (fun q _ h => hFc q h) hFc (fun r u t H locs ht hvm hw hB hz1 hk1 hS => ?_)
    have hru9 := hw.2
    have hw := hw.1
    refine ex_2_1 hB (fun f_5847 f_5848 e_f_5847_0 hB => ?_)
    obtain ⟨hP, hD⟩ := Bw.goA (ws' := [(oc6 oK oR oC oS oT rK_images iK_imageCount oA oH oL x_5843 iK_latestFault iK_latestPlace), (oc1 oC iC_nodes iC_words iC_chances iC_unsures iC_slips iC_throneNode iC_saidWorth iC_unit rC_kind rC_parts rC_partNodes rC_weights rC_weightSums rC_toldWorths rC_steps rC_below rC_above rC_unsureWords rC_unsureWorths), (arI rC_kind kC_kind 18 fC_kind), (arI rC_parts kC_parts 18 fC_parts), (arI rC_partNodes kC_partNodes 72 fC_partNodes), (arI rC_weights kC_weights 72 fC_weights), (arI rC_weightSums kC_weightSums 18 fC_weightSums), (arI rC_toldWorths kC_toldWorths 18 fC_toldWorths), (arI rC_unsureWords kC_unsureWords 4 fC_unsureWords), (arI rC_unsureWorths kC_unsureWorths 4 fC_unsureWorths), (oc4 oL rL_values rL_supposed), (arI rL_values kL_values 18 f_5847), (arI rL_supposed kL_supposed 18 f_5848)]) hB rfl ht hFc rfl
    clear hz1 hk1 hvm ht hB
    rw [← hru9] at e_f_5847_0
    obtain ⟨x_5849, rfl⟩ : ∃ z, z = r := ⟨_, rfl⟩
    have hG := hG.trans (un3_eq e_f_5847_0)
    have rg_x_5849 := fb_rng x_5849
    refine lv_istore_n (lv' := [(1, .int x_5849), (0, .ref oK)]) hx hb dX6_could_13 rfl hl (by decide) rfl (fun ls hl => ?_)
    refine lv_iconst (v := 0) hx hb dX6_could_14 (by decide) ?_
    refine lv_istore_n (lv' := [(2, .int 0), (1, .int x_5849), (0, .ref oK)]) hx hb dX6_could_15 rfl hl (by decide) rfl (fun ls hl => ?_)
    refine lv_iconst (v := 0) hx hb dX6_could_16 (by decide) ?_
    refine lv_istore_n (lv' := [(3, .int 0), (2, .int 0), (1, .int x_5849), (0, .ref oK)]) hx hb dX6_could_17 rfl hl (by decide) rfl (fun ls hl => ?_)
    have hl := lv_sub hl (l' := [(3, .int 0), (2, .int 0), (1, .int x_5849), (0, .ref oK)]) [0, 1, 2, 3] rfl
    have key_n_5852 : ∀ (n_5852 : Nat) (z_5850 : Int32) (z_5851 : Int32) (H : Heap) (locs : List Loc) (ls : Array Slot), (0 ≤ z_5850.toInt ∧ z_5850.toInt ≤ 2147483647) → (2147483647 - z_5850.toInt).toNat < n_5852 → (PX6_could iC_nodes iC_unsures iC_throneNode iC_saidWorth iC_unit fC_kind fC_parts fC_partNodes fC_weights fC_weightSums fC_toldWorths fC_unsureWords fC_unsureWorths fL_values fL_supposed = HX6_could_0 iC_unsures x_5843 f_5847 f_5848 x_5849 n_5852 z_5850 z_5851) → va_P (dC, dI) vwCl [(oc6 oK oR oC oS oT rK_images iK_imageCount oA oH oL x_5843 iK_latestFault iK_latestPlace), (oc1 oC iC_nodes iC_words iC_chances iC_unsures iC_slips iC_throneNode iC_saidWorth iC_unit rC_kind rC_parts rC_partNodes rC_weights rC_weightSums rC_toldWorths rC_steps rC_below rC_above rC_unsureWords rC_unsureWorths), (arI rC_kind kC_kind 18 fC_kind), (arI rC_parts kC_parts 18 fC_parts), (arI rC_partNodes kC_partNodes 72 fC_partNodes), (arI rC_weights kC_weights 72 fC_weights), (arI rC_weightSums kC_weightSums 18 fC_weightSums), (arI rC_toldWorths kC_toldWorths 18 fC_toldWorths), (arI rC_unsureWords kC_unsureWords 4 fC_unsureWords), (arI rC_unsureWorths kC_unsureWorths 4 fC_unsureWorths), (oc4 oL rL_values rL_supposed), (arI rL_values kL_values 18 f_5847), (arI rL_supposed kL_supposed 18 f_5848)] H → va_D A [(oc6 oK oR oC oS oT rK_images iK_imageCount oA oH oL x_5843 iK_latestFault iK_latestPlace), (oc1 oC iC_nodes iC_words iC_chances iC_unsures iC_slips iC_throneNode iC_saidWorth iC_unit rC_kind rC_parts rC_partNodes rC_weights rC_weightSums rC_toldWorths rC_steps rC_below rC_above rC_unsureWords rC_unsureWorths), (arI rC_kind kC_kind 18 fC_kind), (arI rC_parts kC_parts 18 fC_parts), (arI rC_partNodes kC_partNodes 72 fC_partNodes), (arI rC_weights kC_weights 72 fC_weights), (arI rC_weightSums kC_weightSums 18 fC_weightSums), (arI rC_toldWorths kC_toldWorths 18 fC_toldWorths), (arI rC_unsureWords kC_unsureWords 4 fC_unsureWords), (arI rC_unsureWorths kC_unsureWorths 4 fC_unsureWorths), (oc4 oL rL_values rL_supposed), (arI rL_values kL_values 18 f_5847), (arI rL_supposed kL_supposed 18 f_5848)] → va_S A s.heap H locs → lv_has ls 4 [(3, .int z_5850), (2, .int z_5851), (1, .int x_5849), (0, .ref oK)] → W p l e (headSpec (Cond.code yX6_could cX6_could 4 (some .int) :: wG) ({ frames := 5, cells := 0, slots := 0, locals := 118 })).room s m ([.ref oK] : List Value).toArray below meth c H locs 0 0 (MQ below (va_Qi (fun (r : Int32) (u : Nat) => (True ∧ True) ∧ r = Int32.ofNat u) (fun (u : Nat) (t : State) => ∃ (niK_refusal : Int32) (nfL_values : Nat → Int32) (nfL_supposed : Nat → Int32), (PX6_could iC_nodes iC_unsures iC_throneNode iC_saidWorth iC_unit fC_kind fC_parts fC_partNodes fC_weights fC_weightSums fC_toldWorths fC_unsureWords fC_unsureWorths fL_values fL_supposed = (Int32.ofNat u, niK_refusal, nfL_values, nfL_supposed)) ∧ Bw dC dI A [(oc6 oK oR oC oS oT rK_images iK_imageCount oA oH oL niK_refusal iK_latestFault iK_latestPlace), (oc1 oC iC_nodes iC_words iC_chances iC_unsures iC_slips iC_throneNode iC_saidWorth iC_unit rC_kind rC_parts rC_partNodes rC_weights rC_weightSums rC_toldWorths rC_steps rC_below rC_above rC_unsureWords rC_unsureWorths), (arI rC_kind kC_kind 18 fC_kind), (arI rC_parts kC_parts 18 fC_parts), (arI rC_partNodes kC_partNodes 72 fC_partNodes), (arI rC_weights kC_weights 72 fC_weights), (arI rC_weightSums kC_weightSums 18 fC_weightSums), (arI rC_toldWorths kC_toldWorths 18 fC_toldWorths), (arI rC_unsureWords kC_unsureWords 4 fC_unsureWords), (arI rC_unsureWorths kC_unsureWorths 4 fC_unsureWorths), (oc4 oL rL_values rL_supposed), (arI rL_values kL_values 18 nfL_values), (arI rL_supposed kL_supposed 18 nfL_supposed)] [(kC_kind, .int), (kC_parts, .int), (kC_partNodes, .int), (kC_weights, .int), (kC_weightSums, .int), (kC_toldWorths, .int), (kC_unsureWords, .int), (kC_unsureWorths, .int), (kL_values, .int), (kL_supposed, .int)] t) A) ([.ref oK] : List Value).toArray s 0 0 A) (F0 m 18 ls []) := by
      intro n_5852
      induction n_5852 with
      | zero => intro z_5850 z_5851 H locs ls hi0_n_5852 hm; exact absurd hm (Nat.not_lt_zero _)
      | succ n_5852 ih_n_5852 =>
        intro z_5850 z_5851 H locs ls hi0_n_5852 hm_n_5852 hG hP hD hS hl
        have hG := hG.trans (HX6_could_0_eq _ _ _ _ _ _ _ _)
        have rg_z_5850 := fb_rng z_5850
        have rg_z_5851 := fb_rng z_5851
        refine lv_iload_n hx hb dX6_could_18 rfl (lv_at hl 0 rfl) ?_
        refine lv_aload_n hx hb dX6_could_19 rfl (lv_at hl 3 rfl) ?_
        refine va_get (D := (dC, dI)) (ci := 6) (v := .ref oC) (C := RX6) (T := TX6) (N := 12) hx hb hts inX6 hown hK hP 0 rfl rfl 1 (by decide) (hts _ wd_20) (fun _ h9 => h9) rfl dX6_could_20 ?_
        have hMs := ml_of hD [false, true, false, false, false, false, false, false, false, false, false, false, false] (wc := [(oc1 oC iC_nodes iC_words iC_chances iC_unsures iC_slips iC_throneNode iC_saidWorth iC_unit rC_kind rC_parts rC_partNodes rC_weights rC_weightSums rC_toldWorths rC_steps rC_below rC_above rC_unsureWords rC_unsureWorths)]) rfl
        have hFc := va_freeM hD hS hA _ hMs
        refine va_calli (va_runV (As := []) (rest := [.int z_5850]) ⟨hx, hb, hml, hown, hts⟩ (tX1_unsureSets l dC dI _ oC iC_nodes iC_words iC_chances iC_unsures iC_slips iC_throneNode iC_saidWorth iC_unit rC_kind rC_parts rC_partNodes rC_weights rC_weightSums rC_toldWorths rC_steps rC_below rC_above rC_unsureWords rC_unsureWorths b_iC_nodes b_iC_unsures b_iC_throneNode) (cwV 0 hts (wd_V wd_1165 wd_1166 wd_1167 wd_19 (wd_c wd_1168)) rfl rfl rfl dv_yX1_unsureSets_0 ⟨Nat.le_of_ble_eq_true rfl, Nat.le_of_ble_eq_true rfl⟩) ⟨Pw.fb, recvX1 hK hP (q0 := 1) rfl, fun U hU hW => Pw.to (hP.ms _ hMs) (hD.ms _ hMs) (hK.ms [false, false, false, false, false, false, false, false, false, false] rfl) hE hS hFc hU hW⟩ rfl rfl hl.1 rfl (lv_room (Nat.le_of_ble_eq_true rfl)) dX6_could_23 ⟨Nat.le_of_ble_eq_true rfl, Nat.le_of_ble_eq_true rfl⟩) hS (fun q _ h => hFc q h) hFc (fun r u t H locs ht hvm hw hB hz1 hk1 hS => ?_)
        have hru9 := hw.2
        have hw := hw.1
        obtain ⟨hP, hD⟩ := Bw.goN (ws' := [(oc6 oK oR oC oS oT rK_images iK_imageCount oA oH oL x_5843 iK_latestFault iK_latestPlace), (oc1 oC iC_nodes iC_words iC_chances iC_unsures iC_slips iC_throneNode iC_saidWorth iC_unit rC_kind rC_parts rC_partNodes rC_weights rC_weightSums rC_toldWorths rC_steps rC_below rC_above rC_unsureWords rC_unsureWorths), (arI rC_kind kC_kind 18 fC_kind), (arI rC_parts kC_parts 18 fC_parts), (arI rC_partNodes kC_partNodes 72 fC_partNodes), (arI rC_weights kC_weights 72 fC_weights), (arI rC_weightSums kC_weightSums 18 fC_weightSums), (arI rC_toldWorths kC_toldWorths 18 fC_toldWorths), (arI rC_unsureWords kC_unsureWords 4 fC_unsureWords), (arI rC_unsureWorths kC_unsureWorths 4 fC_unsureWorths), (oc4 oL rL_values rL_supposed), (arI rL_values kL_values 18 f_5847), (arI rL_supposed kL_supposed 18 f_5848)]) hB rfl ht hP hD _ hMs hk1 hFc rfl
        clear hz1 hk1 hvm ht hB hMs
        obtain ⟨x_5853, rfl⟩ : ∃ z, z = r := ⟨_, rfl⟩
        have hG := hG.trans (lt_eq hru9.symm)
        have rg_x_5853 := fb_rng x_5853
        have ux_5853 := hw.2
        refine lv_icmp_ge (tgt := 48) hx hb dX6_could_26 (by decide) (fun c_5854 => ?_) (fun c_5854 => ?_)
        · skip
          have hG := hG.trans (if_pos c_5854)
          have gc_5854 := ti_le c_5854 rfl rfl
          refine lv_iload_n hx hb dX6_could_48 rfl (lv_at hl 1 rfl) ?_
          exact wq_i hx hb hr (cI z_5851) ⟨⟨trivial, trivial⟩, (cI_of z_5851)⟩ (fun t ht hW => ⟨x_5843, f_5847, f_5848, (cI_tup hG), Bw.to hP hD hK ht hW⟩) hS dX6_could_49 hlocks
        · skip
          have hG := hG.trans (if_neg c_5854)
          have gc_5854 := ti_nle c_5854 rfl rfl
          refine lv_iload_n hx hb dX6_could_29 rfl (lv_at hl 2 rfl) ?_
          refine lv_iload_n hx hb dX6_could_30 rfl (lv_at hl 0 rfl) ?_
          refine lv_ishr hx hb dX6_could_31 ?_
          refine lv_topi (fun x_5855 ex_5855 => ?_)
          have hG := hG.trans (lt_eq ex_5855)
          have rg_x_5855 := fb_rng x_5855
          refine lv_iconst (v := 1) hx hb dX6_could_32 (by decide) ?_
          refine lv_iand hx hb dX6_could_33 ?_
          refine lv_topi (fun x_5856 ex_5856 => ?_)
          have hG := hG.trans (lt_eq ex_5856)
          have rg_x_5856 := fb_rng x_5856
          refine lv_iconst (v := 1) hx hb dX6_could_34 (by decide) ?_
          refine lv_icmp_ne (tgt := 42) hx hb dX6_could_35 (by decide) (fun c_5857 => ?_) (fun c_5857 => ?_)
          · skip
            have hG := hG.trans (if_neg c_5857)
            have gc_5857 := ti_ne c_5857 rfl kc_1
            obtain ⟨x_5858, ex_5858⟩ : ∃ z : Int32, z = z_5850 + Int32.ofInt 1 := ⟨_, rfl⟩
            have hG := hG.trans (lt_eq ex_5858)
            have vx_5858 : x_5858.toInt = z_5850.toInt + 1 := ti_add (y := 1) ex_5858 rfl kc_1 (om_4e4fce7e hi0_n_5852.1) (om_26fca3fc ux_5853.2 gc_5854)
            refine lv_iinc (v := x_5858) (lv' := [(3, .int x_5858), (2, .int z_5851), (1, .int x_5849), (0, .ref oK)]) hx hb dX6_could_42 hl (k := 0) rfl ex_5858.symm (by decide) rfl (fun ls hl => ?_)
            refine lv_goto (tgt := 18) hx hb dX6_could_45 (by decide) ?_
            exact ih_n_5852 x_5858 z_5851 _ _ _  ⟨(om_83b90de5 hi0_n_5852.1 vx_5858), (om_4b156bce ux_5853.2 gc_5854 vx_5858)⟩ (ms_lt hm_n_5852 (om_b9393183 vx_5858) (om_33376cd8 ux_5853.2 gc_5854)) hG hP hD hS (lv_sub hl [0, 1, 2, 3] rfl)
          · skip
            have hG := hG.trans (if_pos c_5857)
            have gc_5857 := ti_eq c_5857 rfl kc_1
            refine lv_iload_n hx hb dX6_could_38 rfl (lv_at hl 1 rfl) ?_
            refine lv_iload_n hx hb dX6_could_39 rfl (lv_at hl 0 rfl) ?_
            refine lv_ior hx hb dX6_could_40 ?_
            refine lv_topi (fun x_5859 ex_5859 => ?_)
            have hG := hG.trans (lt_eq ex_5859)
            have rg_x_5859 := fb_rng x_5859
            refine lv_istore_n (lv' := [(2, .int x_5859), (3, .int z_5850), (1, .int x_5849), (0, .ref oK)]) hx hb dX6_could_41 rfl hl (by decide) rfl (fun ls hl => ?_)
            obtain ⟨x_5860, ex_5860⟩ : ∃ z : Int32, z = z_5850 + Int32.ofInt 1 := ⟨_, rfl⟩
            have hG := hG.trans (lt_eq ex_5860)
            have vx_5860 : x_5860.toInt = z_5850.toInt + 1 := ti_add (y := 1) ex_5860 rfl kc_1 (om_4e4fce7e hi0_n_5852.1) (om_26fca3fc ux_5853.2 gc_5854)
            refine lv_iinc (v := x_5860) (lv' := [(3, .int x_5860), (2, .int x_5859), (1, .int x_5849), (0, .ref oK)]) hx hb dX6_could_42 hl (k := 1) rfl ex_5860.symm (by decide) rfl (fun ls hl => ?_)
            refine lv_goto (tgt := 18) hx hb dX6_could_45 (by decide) ?_
            exact ih_n_5852 x_5860 x_5859 _ _ _  ⟨(om_83b90de5 hi0_n_5852.1 vx_5860), (om_4b156bce ux_5853.2 gc_5854 vx_5860)⟩ (ms_lt hm_n_5852 (om_b9393183 vx_5860) (om_33376cd8 ux_5853.2 gc_5854)) hG hP hD hS (lv_sub hl [0, 1, 2, 3] rfl)
    exact key_n_5852 (((2147483647 - (0 : Int32).toInt).toNat) + 1) 0 0 _ _ _  ⟨(om_b1de7dbe kc_0), (om_daf17c64 kc_0)⟩ (Nat.lt_add_one _) hG hP hD hS hl
  · skip
    have hG := hG.trans (un2_eq e_x_5843_0)
    have hG := hG.trans (if_neg (by decide))
    refine lv_if_eq (tgt := 9) hx hb dX6_could_4 (by decide) (fun c => absurd c (by decide)) (fun _ => ?_)
    refine lv_iconst (v := (-1)) hx hb dX6_could_7 (by decide) ?_
    exact wq_i hx hb hr (cI (-1)) ⟨⟨trivial, trivial⟩, (cI_of (-1))⟩ (fun t ht hW => ⟨x_5843, fL_values, fL_supposed, (cI_tup hG), Bw.to hP hD hK ht hW⟩) hS dX6_could_8 hlocks
set_option maxHeartbeats 4000000 in
set_option maxRecDepth 100000 in
theorem tX6_surely (l : Launch) (dC : Nat → ClassId) (dI : Nat → Nat → Nat) (sz : Nat) (oK : Nat) (oR : Nat) (oC : Nat) (oS : Nat) (oT : Nat) (rK_images : Nat) (iK_imageCount : Int32) (oA : Nat) (oH : Nat) (oL : Nat) (iK_refusal : Int32) (iK_latestFault : Int32) (iK_latestPlace : Int32) (iC_nodes : Int32) (iC_words : Int32) (iC_chances : Int32) (iC_unsures : Int32) (iC_slips : Int32) (iC_throneNode : Int32) (iC_saidWorth : Int32) (iC_unit : Int32) (rC_kind : Nat) (fC_kind : Nat → Int32) (kC_kind : ClassId) (rC_parts : Nat) (fC_parts : Nat → Int32) (kC_parts : ClassId) (rC_partNodes : Nat) (fC_partNodes : Nat → Int32) (kC_partNodes : ClassId) (rC_weights : Nat) (fC_weights : Nat → Int32) (kC_weights : ClassId) (rC_weightSums : Nat) (fC_weightSums : Nat → Int32) (kC_weightSums : ClassId) (rC_toldWorths : Nat) (fC_toldWorths : Nat → Int32) (kC_toldWorths : ClassId) (rC_steps : Nat) (rC_below : Nat) (rC_above : Nat) (rC_unsureWords : Nat) (fC_unsureWords : Nat → Int32) (kC_unsureWords : ClassId) (rC_unsureWorths : Nat) (fC_unsureWorths : Nat → Int32) (kC_unsureWorths : ClassId) (rL_values : Nat) (fL_values : Nat → Int32) (kL_values : ClassId) (rL_supposed : Nat) (fL_supposed : Nat → Int32) (kL_supposed : ClassId) (b_iK_imageCount : 0 ≤ iK_imageCount.toInt ∧ iK_imageCount.toInt ≤ 3) (b_iC_nodes : 0 ≤ iC_nodes.toInt ∧ iC_nodes.toInt ≤ 18) (b_iC_unsures : 0 ≤ iC_unsures.toInt ∧ iC_unsures.toInt ≤ 4) (b_iC_throneNode : (-1) ≤ iC_throneNode.toInt ∧ iC_throneNode.toInt ≤ 17) (a_fC_parts : ∀ j : Nat, j < 18 → 0 ≤ (fC_parts j).toInt ∧ (fC_parts j).toInt ≤ 4) (a_fC_partNodes : ∀ j : Nat, j < 72 → 0 ≤ (fC_partNodes j).toInt ∧ (fC_partNodes j).toInt ≤ 17) (a_fC_unsureWords : ∀ j : Nat, j < 4 → 0 ≤ (fC_unsureWords j).toInt ∧ (fC_unsureWords j).toInt ≤ 17)  : Met l yX6_surely (Cond.code yX6_surely cX6_surely 4 (some .int) :: wG) ({ frames := 5, cells := 0, slots := 0, locals := 118 }) (va_Pc [.ref oK] (Pw dC dI sz [(oc6 oK oR oC oS oT rK_images iK_imageCount oA oH oL iK_refusal iK_latestFault iK_latestPlace), (oc1 oC iC_nodes iC_words iC_chances iC_unsures iC_slips iC_throneNode iC_saidWorth iC_unit rC_kind rC_parts rC_partNodes rC_weights rC_weightSums rC_toldWorths rC_steps rC_below rC_above rC_unsureWords rC_unsureWorths), (arI rC_kind kC_kind 18 fC_kind), (arI rC_parts kC_parts 18 fC_parts), (arI rC_partNodes kC_partNodes 72 fC_partNodes), (arI rC_weights kC_weights 72 fC_weights), (arI rC_weightSums kC_weightSums 18 fC_weightSums), (arI rC_toldWorths kC_toldWorths 18 fC_toldWorths), (arI rC_unsureWords kC_unsureWords 4 fC_unsureWords), (arI rC_unsureWorths kC_unsureWorths 4 fC_unsureWorths), (oc4 oL rL_values rL_supposed), (arI rL_values kL_values 18 fL_values), (arI rL_supposed kL_supposed 18 fL_supposed)] [(kC_kind, .int), (kC_parts, .int), (kC_partNodes, .int), (kC_weights, .int), (kC_weightSums, .int), (kC_toldWorths, .int), (kC_unsureWords, .int), (kC_unsureWorths, .int), (kL_values, .int), (kL_supposed, .int)])) (va_Qi (fun (r : Int32) (u : Nat) => (True ∧ True) ∧ r = Int32.ofNat u) (fun (u : Nat) (t : State) => ∃ (niK_refusal : Int32) (nfL_values : Nat → Int32) (nfL_supposed : Nat → Int32), (PX6_surely iC_nodes iC_unsures iC_throneNode iC_saidWorth iC_unit fC_kind fC_parts fC_partNodes fC_weights fC_weightSums fC_toldWorths fC_unsureWords fC_unsureWorths fL_values fL_supposed = (Int32.ofNat u, niK_refusal, nfL_values, nfL_supposed)) ∧ Bw dC dI (va_A [(oc6 oK oR oC oS oT rK_images iK_imageCount oA oH oL iK_refusal iK_latestFault iK_latestPlace), (oc1 oC iC_nodes iC_words iC_chances iC_unsures iC_slips iC_throneNode iC_saidWorth iC_unit rC_kind rC_parts rC_partNodes rC_weights rC_weightSums rC_toldWorths rC_steps rC_below rC_above rC_unsureWords rC_unsureWorths), (arI rC_kind kC_kind 18 fC_kind), (arI rC_parts kC_parts 18 fC_parts), (arI rC_partNodes kC_partNodes 72 fC_partNodes), (arI rC_weights kC_weights 72 fC_weights), (arI rC_weightSums kC_weightSums 18 fC_weightSums), (arI rC_toldWorths kC_toldWorths 18 fC_toldWorths), (arI rC_unsureWords kC_unsureWords 4 fC_unsureWords), (arI rC_unsureWorths kC_unsureWorths 4 fC_unsureWorths), (oc4 oL rL_values rL_supposed), (arI rL_values kL_values 18 fL_values), (arI rL_supposed kL_supposed 18 fL_supposed)] sz) [(oc6 oK oR oC oS oT rK_images iK_imageCount oA oH oL niK_refusal iK_latestFault iK_latestPlace), (oc1 oC iC_nodes iC_words iC_chances iC_unsures iC_slips iC_throneNode iC_saidWorth iC_unit rC_kind rC_parts rC_partNodes rC_weights rC_weightSums rC_toldWorths rC_steps rC_below rC_above rC_unsureWords rC_unsureWorths), (arI rC_kind kC_kind 18 fC_kind), (arI rC_parts kC_parts 18 fC_parts), (arI rC_partNodes kC_partNodes 72 fC_partNodes), (arI rC_weights kC_weights 72 fC_weights), (arI rC_weightSums kC_weightSums 18 fC_weightSums), (arI rC_toldWorths kC_toldWorths 18 fC_toldWorths), (arI rC_unsureWords kC_unsureWords 4 fC_unsureWords), (arI rC_unsureWorths kC_unsureWorths 4 fC_unsureWorths), (oc4 oL rL_values rL_supposed), (arI rL_values kL_values 18 nfL_values), (arI rL_supposed kL_supposed 18 nfL_supposed)] [(kC_kind, .int), (kC_parts, .int), (kC_partNodes, .int), (kC_weights, .int), (kC_weightSums, .int), (kC_toldWorths, .int), (kC_unsureWords, .int), (kC_unsureWorths, .int), (kL_values, .int), (kL_supposed, .int)] t) (va_A [(oc6 oK oR oC oS oT rK_images iK_imageCount oA oH oL iK_refusal iK_latestFault iK_latestPlace), (oc1 oC iC_nodes iC_words iC_chances iC_unsures iC_slips iC_throneNode iC_saidWorth iC_unit rC_kind rC_parts rC_partNodes rC_weights rC_weightSums rC_toldWorths rC_steps rC_below rC_above rC_unsureWords rC_unsureWorths), (arI rC_kind kC_kind 18 fC_kind), (arI rC_parts kC_parts 18 fC_parts), (arI rC_partNodes kC_partNodes 72 fC_partNodes), (arI rC_weights kC_weights 72 fC_weights), (arI rC_weightSums kC_weightSums 18 fC_weightSums), (arI rC_toldWorths kC_toldWorths 18 fC_toldWorths), (arI rC_unsureWords kC_unsureWords 4 fC_unsureWords), (arI rC_unsureWorths kC_unsureWorths 4 fC_unsureWorths), (oc4 oL rL_values rL_supposed), (arI rL_values kL_values 18 fL_values), (arI rL_supposed kL_supposed 18 fL_supposed)] sz)) 0 0 (va_A [(oc6 oK oR oC oS oT rK_images iK_imageCount oA oH oL iK_refusal iK_latestFault iK_latestPlace), (oc1 oC iC_nodes iC_words iC_chances iC_unsures iC_slips iC_throneNode iC_saidWorth iC_unit rC_kind rC_parts rC_partNodes rC_weights rC_weightSums rC_toldWorths rC_steps rC_below rC_above rC_unsureWords rC_unsureWorths), (arI rC_kind kC_kind 18 fC_kind), (arI rC_parts kC_parts 18 fC_parts), (arI rC_partNodes kC_partNodes 72 fC_partNodes), (arI rC_weights kC_weights 72 fC_weights), (arI rC_weightSums kC_weightSums 18 fC_weightSums), (arI rC_toldWorths kC_toldWorths 18 fC_toldWorths), (arI rC_unsureWords kC_unsureWords 4 fC_unsureWords), (arI rC_unsureWorths kC_unsureWorths 4 fC_unsureWorths), (oc4 oL rL_values rL_supposed), (arI rL_values kL_values 18 fL_values), (arI rL_supposed kL_supposed 18 fL_supposed)] sz) := by
  refine Met.ofW (cc := cX6_surely) (maxL := 4) (ret := (some .int)) pnX6 rfl ?_
  intro p e s m args below meth c s₁ B hml hv
  obtain ⟨rfl, hsz, hP, hK, hD0, hE⟩ := hv
  have hx := B.exec
  have hb := B.bytes
  have hr := B.returns
  have hts : ∀ w ∈ wG, w.before ([.ref oK] : List Value).toArray s = true := fun w h => atoms_spec (ws := Cond.code yX6_surely cX6_surely 4 (some .int) :: wG) B.pre w (List.mem_cons_of_mem _ h)
  have hown : s.vm.findClass RX6 = some m.cls := own_of B.named rfl
  have hlocks := B.notSynchronized
  subst hsz
  have hD := hD0.self (sz := s.heap.size)
  generalize hAe : va_A [(oc6 oK oR oC oS oT rK_images iK_imageCount oA oH oL iK_refusal iK_latestFault iK_latestPlace), (oc1 oC iC_nodes iC_words iC_chances iC_unsures iC_slips iC_throneNode iC_saidWorth iC_unit rC_kind rC_parts rC_partNodes rC_weights rC_weightSums rC_toldWorths rC_steps rC_below rC_above rC_unsureWords rC_unsureWorths), (arI rC_kind kC_kind 18 fC_kind), (arI rC_parts kC_parts 18 fC_parts), (arI rC_partNodes kC_partNodes 72 fC_partNodes), (arI rC_weights kC_weights 72 fC_weights), (arI rC_weightSums kC_weightSums 18 fC_weightSums), (arI rC_toldWorths kC_toldWorths 18 fC_toldWorths), (arI rC_unsureWords kC_unsureWords 4 fC_unsureWords), (arI rC_unsureWorths kC_unsureWorths 4 fC_unsureWorths), (oc4 oL rL_values rL_supposed), (arI rL_values kL_values 18 fL_values), (arI rL_supposed kL_supposed 18 fL_supposed)] s.heap.size = A at hD hE ⊢
  have hA : ∀ q : Nat, s.heap.size ≤ q → A q := fun q h => by rw [← hAe]; exact Or.inr h
  have hS : va_S A s.heap s.heap [] := va_S.rf
  have hl := lv_entry ([.ref oK]) (n := 4) (Nat.le_of_ble_eq_true rfl)
  rw [lg_entry_eq]
  generalize (lg_sl ([.ref oK]) ++ List.replicate (4 - (lg_sl ([.ref oK])).length) Slot.unset).toArray = ls at hl ⊢
  have hl : lv_has ls 4 [(0, .ref oK)] := hl
  have hG := PX6_surely_eq iC_nodes iC_unsures iC_throneNode iC_saidWorth iC_unit fC_kind fC_parts fC_partNodes fC_weights fC_weightSums fC_toldWorths fC_unsureWords fC_unsureWorths fL_values fL_supposed
  refine lv_aload_n hx hb dX6_surely_0 rfl (lv_at hl 0 rfl) ?_
  have hMs := ml_of hD [true, true, false, false, false, false, false, false, false, false, false, false, false] (wc := [(oc6 oK oR oC oS oT rK_images iK_imageCount oA oH oL iK_refusal iK_latestFault iK_latestPlace), (oc1 oC iC_nodes iC_words iC_chances iC_unsures iC_slips iC_throneNode iC_saidWorth iC_unit rC_kind rC_parts rC_partNodes rC_weights rC_weightSums rC_toldWorths rC_steps rC_below rC_above rC_unsureWords rC_unsureWorths)]) rfl
  have hFc := va_freeM hD hS hA _ hMs
  refine va_calli (va_runV (As := []) (rest := []) ⟨hx, hb, hml, hown, hts⟩ (tX6_lacksCourt l dC dI _ oK oR oC oS oT rK_images iK_imageCount oA oH oL iK_refusal iK_latestFault iK_latestPlace iC_nodes iC_words iC_chances iC_unsures iC_slips iC_throneNode iC_saidWorth iC_unit rC_kind rC_parts rC_partNodes rC_weights rC_weightSums rC_toldWorths rC_steps rC_below rC_above rC_unsureWords rC_unsureWorths b_iK_imageCount b_iC_nodes b_iC_unsures b_iC_throneNode) (cwV 0 hts (wd_V wd_596 wd_597 wd_598 wd_2 (wd_c wd_599)) rfl rfl rfl dv_yX6_lacksCourt_0 ⟨Nat.le_of_ble_eq_true rfl, Nat.le_of_ble_eq_true rfl⟩) ⟨Pw.fb, recvX6 hK hP (q0 := 0) rfl, fun U hU hW => Pw.to (hP.ms _ hMs) (hD.ms _ hMs) (hK.ms [false, false, false, false, false, false, false, false, false, false] rfl) hE hS hFc hU hW⟩ rfl rfl hl.1 rfl (lv_room (Nat.le_of_ble_eq_true rfl)) dX6_surely_1 ⟨Nat.le_of_ble_eq_true rfl, Nat.le_of_ble_eq_true rfl⟩) hS (fun q _ h => hFc q h) hFc (fun r u t H locs ht hvm hw hB hz1 hk1 hS => ?_)
  have hru9 := hw.2
  have hw := hw.1
  refine ex_1_2 hB (fun x_5913 b_x_5913 e_x_5913_0 hB => ?_)
  obtain ⟨hP, hD⟩ := Bw.goN (ws' := [(oc6 oK oR oC oS oT rK_images iK_imageCount oA oH oL x_5913 iK_latestFault iK_latestPlace), (oc1 oC iC_nodes iC_words iC_chances iC_unsures iC_slips iC_throneNode iC_saidWorth iC_unit rC_kind rC_parts rC_partNodes rC_weights rC_weightSums rC_toldWorths rC_steps rC_below rC_above rC_unsureWords rC_unsureWorths), (arI rC_kind kC_kind 18 fC_kind), (arI rC_parts kC_parts 18 fC_parts), (arI rC_partNodes kC_partNodes 72 fC_partNodes), (arI rC_weights kC_weights 72 fC_weights), (arI rC_weightSums kC_weightSums 18 fC_weightSums), (arI rC_toldWorths kC_toldWorths 18 fC_toldWorths), (arI rC_unsureWords kC_unsureWords 4 fC_unsureWords), (arI rC_unsureWorths kC_unsureWorths 4 fC_unsureWorths), (oc4 oL rL_values rL_supposed), (arI rL_values kL_values 18 fL_values), (arI rL_supposed kL_supposed 18 fL_supposed)]) hB rfl ht hP hD _ hMs hk1 hFc rfl
  clear hz1 hk1 hvm ht hB hMs
  have rg_x_5913 := fb_rng x_5913
  rw [← hru9] at e_x_5913_0
  rcases hw.2 with ⟨rfl, hc_5914⟩ | ⟨rfl, hc_5914⟩
  · skip
    have rg_iC_nodes := fb_rng iC_nodes
    have hG := hG.trans (un2_eq e_x_5913_0)
    have hG := hG.trans (if_pos rfl)
    refine lv_if_eq (tgt := 9) hx hb dX6_surely_4 (by decide) (fun _ => ?_) (fun c => absurd c (by decide))
    refine lv_aload_n hx hb dX6_surely_9 rfl (lv_at hl 0 rfl) ?_
    have hFc := va_freeI hD hS hA
    refine va_calli (va_runV (As := []) (rest := []) ⟨hx, hb, hml, hown, hts⟩ (tX6_fittingSets l dC dI _ oK oR oC oS oT rK_images iK_imageCount oA oH oL x_5913 iK_latestFault iK_latestPlace iC_nodes iC_words iC_chances iC_unsures iC_slips iC_throneNode iC_saidWorth iC_unit rC_kind fC_kind kC_kind rC_parts fC_parts kC_parts rC_partNodes fC_partNodes kC_partNodes rC_weights fC_weights kC_weights rC_weightSums fC_weightSums kC_weightSums rC_toldWorths fC_toldWorths kC_toldWorths rC_steps rC_below rC_above rC_unsureWords fC_unsureWords kC_unsureWords rC_unsureWorths fC_unsureWorths kC_unsureWorths rL_values fL_values kL_values rL_supposed fL_supposed kL_supposed b_iK_imageCount b_iC_nodes b_iC_unsures b_iC_throneNode a_fC_parts a_fC_partNodes a_fC_unsureWords) (cwV 0 hts (wd_V wd_1159 wd_1160 wd_1161 wd_2 (wd_c wd_1162)) rfl rfl rfl dv_yX6_fittingSets_0 ⟨Nat.le_of_ble_eq_true rfl, Nat.le_of_ble_eq_true rfl⟩) ⟨Pw.fb, recvX6 hK hP (q0 := 0) rfl, fun U hU hW => Pw.to hP hD hK hE hS hFc hU hW⟩ rfl rfl hl.1 rfl (lv_room (Nat.le_of_ble_eq_true rfl)) dX6_surely_10 ⟨Nat.le_of_ble_eq_true rfl, Nat.le_of_ble_eq_true rfl⟩) hS (fun q _ h => hFc q h) hFc (fun r u t H locs ht hvm hw hB hz1 hk1 hS => ?_)
    have hru9 := hw.2
    have hw := hw.1
    refine ex_2_1 hB (fun f_5917 f_5918 e_f_5917_0 hB => ?_)
    obtain ⟨hP, hD⟩ := Bw.goA (ws' := [(oc6 oK oR oC oS oT rK_images iK_imageCount oA oH oL x_5913 iK_latestFault iK_latestPlace), (oc1 oC iC_nodes iC_words iC_chances iC_unsures iC_slips iC_throneNode iC_saidWorth iC_unit rC_kind rC_parts rC_partNodes rC_weights rC_weightSums rC_toldWorths rC_steps rC_below rC_above rC_unsureWords rC_unsureWorths), (arI rC_kind kC_kind 18 fC_kind), (arI rC_parts kC_parts 18 fC_parts), (arI rC_partNodes kC_partNodes 72 fC_partNodes), (arI rC_weights kC_weights 72 fC_weights), (arI rC_weightSums kC_weightSums 18 fC_weightSums), (arI rC_toldWorths kC_toldWorths 18 fC_toldWorths), (arI rC_unsureWords kC_unsureWords 4 fC_unsureWords), (arI rC_unsureWorths kC_unsureWorths 4 fC_unsureWorths), (oc4 oL rL_values rL_supposed), (arI rL_values kL_values 18 f_5917), (arI rL_supposed kL_supposed 18 f_5918)]) hB rfl ht hFc rfl
    clear hz1 hk1 hvm ht hB
    rw [← hru9] at e_f_5917_0
    obtain ⟨x_5919, rfl⟩ : ∃ z, z = r := ⟨_, rfl⟩
    have hG := hG.trans (un3_eq e_f_5917_0)
    have rg_x_5919 := fb_rng x_5919
    refine lv_istore_n (lv' := [(1, .int x_5919), (0, .ref oK)]) hx hb dX6_surely_13 rfl hl (by decide) rfl (fun ls hl => ?_)
    refine lv_iload_n hx hb dX6_surely_14 rfl (lv_at hl 0 rfl) ?_
    refine lv_if_ne (tgt := 22) hx hb dX6_surely_15 (by decide) (fun c_5920 => ?_) (fun c_5920 => ?_)
    · skip
      have hG := hG.trans (if_neg c_5920)
      have gc_5920 := ti_ne c_5920 rfl kc_0
      refine lv_aload_n hx hb dX6_surely_22 rfl (lv_at hl 1 rfl) ?_
      refine va_get (D := (dC, dI)) (ci := 6) (v := .ref oC) (C := RX6) (T := TX6) (N := 12) hx hb hts inX6 hown hK hP 0 rfl rfl 1 (by decide) (hts _ wd_20) (fun _ h9 => h9) rfl dX6_surely_23 ?_
      have hMs := ml_of hD [false, true, false, false, false, false, false, false, false, false, false, false, false] (wc := [(oc1 oC iC_nodes iC_words iC_chances iC_unsures iC_slips iC_throneNode iC_saidWorth iC_unit rC_kind rC_parts rC_partNodes rC_weights rC_weightSums rC_toldWorths rC_steps rC_below rC_above rC_unsureWords rC_unsureWorths)]) rfl
      have hFc := va_freeM hD hS hA _ hMs
      refine va_calli (va_runV (As := []) (rest := []) ⟨hx, hb, hml, hown, hts⟩ (tX1_unsureSets l dC dI _ oC iC_nodes iC_words iC_chances iC_unsures iC_slips iC_throneNode iC_saidWorth iC_unit rC_kind rC_parts rC_partNodes rC_weights rC_weightSums rC_toldWorths rC_steps rC_below rC_above rC_unsureWords rC_unsureWorths b_iC_nodes b_iC_unsures b_iC_throneNode) (cwV 0 hts (wd_V wd_1165 wd_1166 wd_1167 wd_19 (wd_c wd_1168)) rfl rfl rfl dv_yX1_unsureSets_0 ⟨Nat.le_of_ble_eq_true rfl, Nat.le_of_ble_eq_true rfl⟩) ⟨Pw.fb, recvX1 hK hP (q0 := 1) rfl, fun U hU hW => Pw.to (hP.ms _ hMs) (hD.ms _ hMs) (hK.ms [false, false, false, false, false, false, false, false, false, false] rfl) hE hS hFc hU hW⟩ rfl rfl hl.1 rfl (lv_room (Nat.le_of_ble_eq_true rfl)) dX6_surely_26 ⟨Nat.le_of_ble_eq_true rfl, Nat.le_of_ble_eq_true rfl⟩) hS (fun q _ h => hFc q h) hFc (fun r u t H locs ht hvm hw hB hz1 hk1 hS => ?_)
      have hru9 := hw.2
      have hw := hw.1
      obtain ⟨hP, hD⟩ := Bw.goN (ws' := [(oc6 oK oR oC oS oT rK_images iK_imageCount oA oH oL x_5913 iK_latestFault iK_latestPlace), (oc1 oC iC_nodes iC_words iC_chances iC_unsures iC_slips iC_throneNode iC_saidWorth iC_unit rC_kind rC_parts rC_partNodes rC_weights rC_weightSums rC_toldWorths rC_steps rC_below rC_above rC_unsureWords rC_unsureWorths), (arI rC_kind kC_kind 18 fC_kind), (arI rC_parts kC_parts 18 fC_parts), (arI rC_partNodes kC_partNodes 72 fC_partNodes), (arI rC_weights kC_weights 72 fC_weights), (arI rC_weightSums kC_weightSums 18 fC_weightSums), (arI rC_toldWorths kC_toldWorths 18 fC_toldWorths), (arI rC_unsureWords kC_unsureWords 4 fC_unsureWords), (arI rC_unsureWorths kC_unsureWorths 4 fC_unsureWorths), (oc4 oL rL_values rL_supposed), (arI rL_values kL_values 18 f_5917), (arI rL_supposed kL_supposed 18 f_5918)]) hB rfl ht hP hD _ hMs hk1 hFc rfl
      clear hz1 hk1 hvm ht hB hMs
      obtain ⟨x_5921, rfl⟩ : ∃ z, z = r := ⟨_, rfl⟩
      have hG := hG.trans (lt_eq hru9.symm)
      have rg_x_5921 := fb_rng x_5921
      have ux_5921 := hw.2
      refine lv_iconst (v := 1) hx hb dX6_surely_29 (by decide) ?_
      refine lv_isub hx hb dX6_surely_30 ?_
      refine lv_topi (fun x_5922 ex_5922 => ?_)
      have hG := hG.trans (lt_eq ex_5922)
      have vx_5922 : x_5922.toInt = x_5921.toInt + (-1) := om_89646172 (ti_sub ex_5922 rfl kc_1 (om_32108caa ux_5921.1) (om_cb379553 ux_5921.2))
      refine lv_istore_n (lv' := [(2, .int x_5922), (1, .int x_5919), (0, .ref oK)]) hx hb dX6_surely_31 rfl hl (by decide) rfl (fun ls hl => ?_)
      refine lv_iconst (v := 0) hx hb dX6_surely_32 (by decide) ?_
      refine lv_istore_n (lv' := [(3, .int 0), (2, .int x_5922), (1, .int x_5919), (0, .ref oK)]) hx hb dX6_surely_33 rfl hl (by decide) rfl (fun ls hl => ?_)
      have hl := lv_sub hl (l' := [(3, .int 0), (2, .int x_5922), (1, .int x_5919), (0, .ref oK)]) [0, 1, 2, 3] rfl
      have key_n_5925 : ∀ (n_5925 : Nat) (z_5923 : Int32) (z_5924 : Int32) (H : Heap) (locs : List Loc) (ls : Array Slot), (0 ≤ z_5923.toInt ∧ z_5923.toInt ≤ 2147483647) → (2147483647 - z_5923.toInt).toNat < n_5925 → (PX6_surely iC_nodes iC_unsures iC_throneNode iC_saidWorth iC_unit fC_kind fC_parts fC_partNodes fC_weights fC_weightSums fC_toldWorths fC_unsureWords fC_unsureWorths fL_values fL_supposed = HX6_surely_0 iC_unsures x_5913 f_5917 f_5918 x_5919 n_5925 z_5923 z_5924) → va_P (dC, dI) vwCl [(oc6 oK oR oC oS oT rK_images iK_imageCount oA oH oL x_5913 iK_latestFault iK_latestPlace), (oc1 oC iC_nodes iC_words iC_chances iC_unsures iC_slips iC_throneNode iC_saidWorth iC_unit rC_kind rC_parts rC_partNodes rC_weights rC_weightSums rC_toldWorths rC_steps rC_below rC_above rC_unsureWords rC_unsureWorths), (arI rC_kind kC_kind 18 fC_kind), (arI rC_parts kC_parts 18 fC_parts), (arI rC_partNodes kC_partNodes 72 fC_partNodes), (arI rC_weights kC_weights 72 fC_weights), (arI rC_weightSums kC_weightSums 18 fC_weightSums), (arI rC_toldWorths kC_toldWorths 18 fC_toldWorths), (arI rC_unsureWords kC_unsureWords 4 fC_unsureWords), (arI rC_unsureWorths kC_unsureWorths 4 fC_unsureWorths), (oc4 oL rL_values rL_supposed), (arI rL_values kL_values 18 f_5917), (arI rL_supposed kL_supposed 18 f_5918)] H → va_D A [(oc6 oK oR oC oS oT rK_images iK_imageCount oA oH oL x_5913 iK_latestFault iK_latestPlace), (oc1 oC iC_nodes iC_words iC_chances iC_unsures iC_slips iC_throneNode iC_saidWorth iC_unit rC_kind rC_parts rC_partNodes rC_weights rC_weightSums rC_toldWorths rC_steps rC_below rC_above rC_unsureWords rC_unsureWorths), (arI rC_kind kC_kind 18 fC_kind), (arI rC_parts kC_parts 18 fC_parts), (arI rC_partNodes kC_partNodes 72 fC_partNodes), (arI rC_weights kC_weights 72 fC_weights), (arI rC_weightSums kC_weightSums 18 fC_weightSums), (arI rC_toldWorths kC_toldWorths 18 fC_toldWorths), (arI rC_unsureWords kC_unsureWords 4 fC_unsureWords), (arI rC_unsureWorths kC_unsureWorths 4 fC_unsureWorths), (oc4 oL rL_values rL_supposed), (arI rL_values kL_values 18 f_5917), (arI rL_supposed kL_supposed 18 f_5918)] → va_S A s.heap H locs → lv_has ls 4 [(3, .int z_5923), (2, .int z_5924), (1, .int x_5919), (0, .ref oK)] → W p l e (headSpec (Cond.code yX6_surely cX6_surely 4 (some .int) :: wG) ({ frames := 5, cells := 0, slots := 0, locals := 118 })).room s m ([.ref oK] : List Value).toArray below meth c H locs 0 0 (MQ below (va_Qi (fun (r : Int32) (u : Nat) => (True ∧ True) ∧ r = Int32.ofNat u) (fun (u : Nat) (t : State) => ∃ (niK_refusal : Int32) (nfL_values : Nat → Int32) (nfL_supposed : Nat → Int32), (PX6_surely iC_nodes iC_unsures iC_throneNode iC_saidWorth iC_unit fC_kind fC_parts fC_partNodes fC_weights fC_weightSums fC_toldWorths fC_unsureWords fC_unsureWorths fL_values fL_supposed = (Int32.ofNat u, niK_refusal, nfL_values, nfL_supposed)) ∧ Bw dC dI A [(oc6 oK oR oC oS oT rK_images iK_imageCount oA oH oL niK_refusal iK_latestFault iK_latestPlace), (oc1 oC iC_nodes iC_words iC_chances iC_unsures iC_slips iC_throneNode iC_saidWorth iC_unit rC_kind rC_parts rC_partNodes rC_weights rC_weightSums rC_toldWorths rC_steps rC_below rC_above rC_unsureWords rC_unsureWorths), (arI rC_kind kC_kind 18 fC_kind), (arI rC_parts kC_parts 18 fC_parts), (arI rC_partNodes kC_partNodes 72 fC_partNodes), (arI rC_weights kC_weights 72 fC_weights), (arI rC_weightSums kC_weightSums 18 fC_weightSums), (arI rC_toldWorths kC_toldWorths 18 fC_toldWorths), (arI rC_unsureWords kC_unsureWords 4 fC_unsureWords), (arI rC_unsureWorths kC_unsureWorths 4 fC_unsureWorths), (oc4 oL rL_values rL_supposed), (arI rL_values kL_values 18 nfL_values), (arI rL_supposed kL_supposed 18 nfL_supposed)] [(kC_kind, .int), (kC_parts, .int), (kC_partNodes, .int), (kC_weights, .int), (kC_weightSums, .int), (kC_toldWorths, .int), (kC_unsureWords, .int), (kC_unsureWorths, .int), (kL_values, .int), (kL_supposed, .int)] t) A) ([.ref oK] : List Value).toArray s 0 0 A) (F0 m 34 ls []) := by
        intro n_5925
        induction n_5925 with
        | zero => intro z_5923 z_5924 H locs ls hi0_n_5925 hm; exact absurd hm (Nat.not_lt_zero _)
        | succ n_5925 ih_n_5925 =>
          intro z_5923 z_5924 H locs ls hi0_n_5925 hm_n_5925 hG hP hD hS hl
          have hG := hG.trans (HX6_surely_0_eq _ _ _ _ _ _ _ _)
          have rg_z_5923 := fb_rng z_5923
          have rg_z_5924 := fb_rng z_5924
          refine lv_iload_n hx hb dX6_surely_34 rfl (lv_at hl 0 rfl) ?_
          refine lv_aload_n hx hb dX6_surely_35 rfl (lv_at hl 3 rfl) ?_
          refine va_get (D := (dC, dI)) (ci := 6) (v := .ref oC) (C := RX6) (T := TX6) (N := 12) hx hb hts inX6 hown hK hP 0 rfl rfl 1 (by decide) (hts _ wd_20) (fun _ h9 => h9) rfl dX6_surely_36 ?_
          have hMs := ml_of hD [false, true, false, false, false, false, false, false, false, false, false, false, false] (wc := [(oc1 oC iC_nodes iC_words iC_chances iC_unsures iC_slips iC_throneNode iC_saidWorth iC_unit rC_kind rC_parts rC_partNodes rC_weights rC_weightSums rC_toldWorths rC_steps rC_below rC_above rC_unsureWords rC_unsureWorths)]) rfl
          have hFc := va_freeM hD hS hA _ hMs
          refine va_calli (va_runV (As := []) (rest := [.int z_5923]) ⟨hx, hb, hml, hown, hts⟩ (tX1_unsureSets l dC dI _ oC iC_nodes iC_words iC_chances iC_unsures iC_slips iC_throneNode iC_saidWorth iC_unit rC_kind rC_parts rC_partNodes rC_weights rC_weightSums rC_toldWorths rC_steps rC_below rC_above rC_unsureWords rC_unsureWorths b_iC_nodes b_iC_unsures b_iC_throneNode) (cwV 0 hts (wd_V wd_1165 wd_1166 wd_1167 wd_19 (wd_c wd_1168)) rfl rfl rfl dv_yX1_unsureSets_0 ⟨Nat.le_of_ble_eq_true rfl, Nat.le_of_ble_eq_true rfl⟩) ⟨Pw.fb, recvX1 hK hP (q0 := 1) rfl, fun U hU hW => Pw.to (hP.ms _ hMs) (hD.ms _ hMs) (hK.ms [false, false, false, false, false, false, false, false, false, false] rfl) hE hS hFc hU hW⟩ rfl rfl hl.1 rfl (lv_room (Nat.le_of_ble_eq_true rfl)) dX6_surely_39 ⟨Nat.le_of_ble_eq_true rfl, Nat.le_of_ble_eq_true rfl⟩) hS (fun q _ h => hFc q h) hFc (fun r u t H locs ht hvm hw hB hz1 hk1 hS => ?_)
          have hru9 := hw.2
          have hw := hw.1
          obtain ⟨hP, hD⟩ := Bw.goN (ws' := [(oc6 oK oR oC oS oT rK_images iK_imageCount oA oH oL x_5913 iK_latestFault iK_latestPlace), (oc1 oC iC_nodes iC_words iC_chances iC_unsures iC_slips iC_throneNode iC_saidWorth iC_unit rC_kind rC_parts rC_partNodes rC_weights rC_weightSums rC_toldWorths rC_steps rC_below rC_above rC_unsureWords rC_unsureWorths), (arI rC_kind kC_kind 18 fC_kind), (arI rC_parts kC_parts 18 fC_parts), (arI rC_partNodes kC_partNodes 72 fC_partNodes), (arI rC_weights kC_weights 72 fC_weights), (arI rC_weightSums kC_weightSums 18 fC_weightSums), (arI rC_toldWorths kC_toldWorths 18 fC_toldWorths), (arI rC_unsureWords kC_unsureWords 4 fC_unsureWords), (arI rC_unsureWorths kC_unsureWorths 4 fC_unsureWorths), (oc4 oL rL_values rL_supposed), (arI rL_values kL_values 18 f_5917), (arI rL_supposed kL_supposed 18 f_5918)]) hB rfl ht hP hD _ hMs hk1 hFc rfl
          clear hz1 hk1 hvm ht hB hMs
          obtain ⟨x_5926, rfl⟩ : ∃ z, z = r := ⟨_, rfl⟩
          have hG := hG.trans (lt_eq hru9.symm)
          have rg_x_5926 := fb_rng x_5926
          have ux_5926 := hw.2
          refine lv_icmp_ge (tgt := 64) hx hb dX6_surely_42 (by decide) (fun c_5927 => ?_) (fun c_5927 => ?_)
          · skip
            have hG := hG.trans (if_pos c_5927)
            have gc_5927 := ti_le c_5927 rfl rfl
            refine lv_iload_n hx hb dX6_surely_64 rfl (lv_at hl 1 rfl) ?_
            exact wq_i hx hb hr (cI z_5924) ⟨⟨trivial, trivial⟩, (cI_of z_5924)⟩ (fun t ht hW => ⟨x_5913, f_5917, f_5918, (cI_tup hG), Bw.to hP hD hK ht hW⟩) hS dX6_surely_65 hlocks
          · skip
            have hG := hG.trans (if_neg c_5927)
            have gc_5927 := ti_nle c_5927 rfl rfl
            refine lv_iload_n hx hb dX6_surely_45 rfl (lv_at hl 2 rfl) ?_
            refine lv_iload_n hx hb dX6_surely_46 rfl (lv_at hl 0 rfl) ?_
            refine lv_ishr hx hb dX6_surely_47 ?_
            refine lv_topi (fun x_5928 ex_5928 => ?_)
            have hG := hG.trans (lt_eq ex_5928)
            have rg_x_5928 := fb_rng x_5928
            refine lv_iconst (v := 1) hx hb dX6_surely_48 (by decide) ?_
            refine lv_iand hx hb dX6_surely_49 ?_
            refine lv_topi (fun x_5929 ex_5929 => ?_)
            have hG := hG.trans (lt_eq ex_5929)
            have rg_x_5929 := fb_rng x_5929
            refine lv_iconst (v := 1) hx hb dX6_surely_50 (by decide) ?_
            refine lv_icmp_ne (tgt := 58) hx hb dX6_surely_51 (by decide) (fun c_5930 => ?_) (fun c_5930 => ?_)
            · skip
              have hG := hG.trans (if_neg c_5930)
              have gc_5930 := ti_ne c_5930 rfl kc_1
              obtain ⟨x_5931, ex_5931⟩ : ∃ z : Int32, z = z_5923 + Int32.ofInt 1 := ⟨_, rfl⟩
              have hG := hG.trans (lt_eq ex_5931)
              have vx_5931 : x_5931.toInt = z_5923.toInt + 1 := ti_add (y := 1) ex_5931 rfl kc_1 (om_4e4fce7e hi0_n_5925.1) (om_26fca3fc ux_5926.2 gc_5927)
              refine lv_iinc (v := x_5931) (lv' := [(3, .int x_5931), (2, .int z_5924), (1, .int x_5919), (0, .ref oK)]) hx hb dX6_surely_58 hl (k := 0) rfl ex_5931.symm (by decide) rfl (fun ls hl => ?_)
              refine lv_goto (tgt := 34) hx hb dX6_surely_61 (by decide) ?_
              exact ih_n_5925 x_5931 z_5924 _ _ _  ⟨(om_83b90de5 hi0_n_5925.1 vx_5931), (om_4b156bce ux_5926.2 gc_5927 vx_5931)⟩ (ms_lt hm_n_5925 (om_b9393183 vx_5931) (om_33376cd8 ux_5926.2 gc_5927)) hG hP hD hS (lv_sub hl [0, 1, 2, 3] rfl)
            · skip
              have hG := hG.trans (if_pos c_5930)
              have gc_5930 := ti_eq c_5930 rfl kc_1
              refine lv_iload_n hx hb dX6_surely_54 rfl (lv_at hl 1 rfl) ?_
              refine lv_iload_n hx hb dX6_surely_55 rfl (lv_at hl 0 rfl) ?_
              refine lv_iand hx hb dX6_surely_56 ?_
              refine lv_topi (fun x_5932 ex_5932 => ?_)
              have hG := hG.trans (lt_eq ex_5932)
              have rg_x_5932 := fb_rng x_5932
              refine lv_istore_n (lv' := [(2, .int x_5932), (3, .int z_5923), (1, .int x_5919), (0, .ref oK)]) hx hb dX6_surely_57 rfl hl (by decide) rfl (fun ls hl => ?_)
              obtain ⟨x_5933, ex_5933⟩ : ∃ z : Int32, z = z_5923 + Int32.ofInt 1 := ⟨_, rfl⟩
              have hG := hG.trans (lt_eq ex_5933)
              have vx_5933 : x_5933.toInt = z_5923.toInt + 1 := ti_add (y := 1) ex_5933 rfl kc_1 (om_4e4fce7e hi0_n_5925.1) (om_26fca3fc ux_5926.2 gc_5927)
              refine lv_iinc (v := x_5933) (lv' := [(3, .int x_5933), (2, .int x_5932), (1, .int x_5919), (0, .ref oK)]) hx hb dX6_surely_58 hl (k := 1) rfl ex_5933.symm (by decide) rfl (fun ls hl => ?_)
              refine lv_goto (tgt := 34) hx hb dX6_surely_61 (by decide) ?_
              exact ih_n_5925 x_5933 x_5932 _ _ _  ⟨(om_83b90de5 hi0_n_5925.1 vx_5933), (om_4b156bce ux_5926.2 gc_5927 vx_5933)⟩ (ms_lt hm_n_5925 (om_b9393183 vx_5933) (om_33376cd8 ux_5926.2 gc_5927)) hG hP hD hS (lv_sub hl [0, 1, 2, 3] rfl)
      exact key_n_5925 (((2147483647 - (0 : Int32).toInt).toNat) + 1) 0 x_5922 _ _ _  ⟨(om_b1de7dbe kc_0), (om_daf17c64 kc_0)⟩ (Nat.lt_add_one _) hG hP hD hS hl
    · skip
      have hG := hG.trans (if_pos c_5920)
      have gc_5920 := ti_eq c_5920 rfl kc_0
      refine lv_iconst (v := 0) hx hb dX6_surely_18 (by decide) ?_
      refine lv_goto (tgt := 31) hx hb dX6_surely_19 (by decide) ?_
      refine lv_istore_n (lv' := [(2, .int 0), (1, .int x_5919), (0, .ref oK)]) hx hb dX6_surely_31 rfl hl (by decide) rfl (fun ls hl => ?_)
      refine lv_iconst (v := 0) hx hb dX6_surely_32 (by decide) ?_
      refine lv_istore_n (lv' := [(3, .int 0), (2, .int 0), (1, .int x_5919), (0, .ref oK)]) hx hb dX6_surely_33 rfl hl (by decide) rfl (fun ls hl => ?_)
      have hl := lv_sub hl (l' := [(3, .int 0), (2, .int 0), (1, .int x_5919), (0, .ref oK)]) [0, 1, 2, 3] rfl
      have key_n_5936 : ∀ (n_5936 : Nat) (z_5934 : Int32) (z_5935 : Int32) (H : Heap) (locs : List Loc) (ls : Array Slot), (0 ≤ z_5934.toInt ∧ z_5934.toInt ≤ 2147483647) → (2147483647 - z_5934.toInt).toNat < n_5936 → (PX6_surely iC_nodes iC_unsures iC_throneNode iC_saidWorth iC_unit fC_kind fC_parts fC_partNodes fC_weights fC_weightSums fC_toldWorths fC_unsureWords fC_unsureWorths fL_values fL_supposed = HX6_surely_0 iC_unsures x_5913 f_5917 f_5918 x_5919 n_5936 z_5934 z_5935) → va_P (dC, dI) vwCl [(oc6 oK oR oC oS oT rK_images iK_imageCount oA oH oL x_5913 iK_latestFault iK_latestPlace), (oc1 oC iC_nodes iC_words iC_chances iC_unsures iC_slips iC_throneNode iC_saidWorth iC_unit rC_kind rC_parts rC_partNodes rC_weights rC_weightSums rC_toldWorths rC_steps rC_below rC_above rC_unsureWords rC_unsureWorths), (arI rC_kind kC_kind 18 fC_kind), (arI rC_parts kC_parts 18 fC_parts), (arI rC_partNodes kC_partNodes 72 fC_partNodes), (arI rC_weights kC_weights 72 fC_weights), (arI rC_weightSums kC_weightSums 18 fC_weightSums), (arI rC_toldWorths kC_toldWorths 18 fC_toldWorths), (arI rC_unsureWords kC_unsureWords 4 fC_unsureWords), (arI rC_unsureWorths kC_unsureWorths 4 fC_unsureWorths), (oc4 oL rL_values rL_supposed), (arI rL_values kL_values 18 f_5917), (arI rL_supposed kL_supposed 18 f_5918)] H → va_D A [(oc6 oK oR oC oS oT rK_images iK_imageCount oA oH oL x_5913 iK_latestFault iK_latestPlace), (oc1 oC iC_nodes iC_words iC_chances iC_unsures iC_slips iC_throneNode iC_saidWorth iC_unit rC_kind rC_parts rC_partNodes rC_weights rC_weightSums rC_toldWorths rC_steps rC_below rC_above rC_unsureWords rC_unsureWorths), (arI rC_kind kC_kind 18 fC_kind), (arI rC_parts kC_parts 18 fC_parts), (arI rC_partNodes kC_partNodes 72 fC_partNodes), (arI rC_weights kC_weights 72 fC_weights), (arI rC_weightSums kC_weightSums 18 fC_weightSums), (arI rC_toldWorths kC_toldWorths 18 fC_toldWorths), (arI rC_unsureWords kC_unsureWords 4 fC_unsureWords), (arI rC_unsureWorths kC_unsureWorths 4 fC_unsureWorths), (oc4 oL rL_values rL_supposed), (arI rL_values kL_values 18 f_5917), (arI rL_supposed kL_supposed 18 f_5918)] → va_S A s.heap H locs → lv_has ls 4 [(3, .int z_5934), (2, .int z_5935), (1, .int x_5919), (0, .ref oK)] → W p l e (headSpec (Cond.code yX6_surely cX6_surely 4 (some .int) :: wG) ({ frames := 5, cells := 0, slots := 0, locals := 118 })).room s m ([.ref oK] : List Value).toArray below meth c H locs 0 0 (MQ below (va_Qi (fun (r : Int32) (u : Nat) => (True ∧ True) ∧ r = Int32.ofNat u) (fun (u : Nat) (t : State) => ∃ (niK_refusal : Int32) (nfL_values : Nat → Int32) (nfL_supposed : Nat → Int32), (PX6_surely iC_nodes iC_unsures iC_throneNode iC_saidWorth iC_unit fC_kind fC_parts fC_partNodes fC_weights fC_weightSums fC_toldWorths fC_unsureWords fC_unsureWorths fL_values fL_supposed = (Int32.ofNat u, niK_refusal, nfL_values, nfL_supposed)) ∧ Bw dC dI A [(oc6 oK oR oC oS oT rK_images iK_imageCount oA oH oL niK_refusal iK_latestFault iK_latestPlace), (oc1 oC iC_nodes iC_words iC_chances iC_unsures iC_slips iC_throneNode iC_saidWorth iC_unit rC_kind rC_parts rC_partNodes rC_weights rC_weightSums rC_toldWorths rC_steps rC_below rC_above rC_unsureWords rC_unsureWorths), (arI rC_kind kC_kind 18 fC_kind), (arI rC_parts kC_parts 18 fC_parts), (arI rC_partNodes kC_partNodes 72 fC_partNodes), (arI rC_weights kC_weights 72 fC_weights), (arI rC_weightSums kC_weightSums 18 fC_weightSums), (arI rC_toldWorths kC_toldWorths 18 fC_toldWorths), (arI rC_unsureWords kC_unsureWords 4 fC_unsureWords), (arI rC_unsureWorths kC_unsureWorths 4 fC_unsureWorths), (oc4 oL rL_values rL_supposed), (arI rL_values kL_values 18 nfL_values), (arI rL_supposed kL_supposed 18 nfL_supposed)] [(kC_kind, .int), (kC_parts, .int), (kC_partNodes, .int), (kC_weights, .int), (kC_weightSums, .int), (kC_toldWorths, .int), (kC_unsureWords, .int), (kC_unsureWorths, .int), (kL_values, .int), (kL_supposed, .int)] t) A) ([.ref oK] : List Value).toArray s 0 0 A) (F0 m 34 ls []) := by
        intro n_5936
        induction n_5936 with
        | zero => intro z_5934 z_5935 H locs ls hi0_n_5936 hm; exact absurd hm (Nat.not_lt_zero _)
        | succ n_5936 ih_n_5936 =>
          intro z_5934 z_5935 H locs ls hi0_n_5936 hm_n_5936 hG hP hD hS hl
          have hG := hG.trans (HX6_surely_0_eq _ _ _ _ _ _ _ _)
          have rg_z_5934 := fb_rng z_5934
          have rg_z_5935 := fb_rng z_5935
          refine lv_iload_n hx hb dX6_surely_34 rfl (lv_at hl 0 rfl) ?_
          refine lv_aload_n hx hb dX6_surely_35 rfl (lv_at hl 3 rfl) ?_
          refine va_get (D := (dC, dI)) (ci := 6) (v := .ref oC) (C := RX6) (T := TX6) (N := 12) hx hb hts inX6 hown hK hP 0 rfl rfl 1 (by decide) (hts _ wd_20) (fun _ h9 => h9) rfl dX6_surely_36 ?_
          have hMs := ml_of hD [false, true, false, false, false, false, false, false, false, false, false, false, false] (wc := [(oc1 oC iC_nodes iC_words iC_chances iC_unsures iC_slips iC_throneNode iC_saidWorth iC_unit rC_kind rC_parts rC_partNodes rC_weights rC_weightSums rC_toldWorths rC_steps rC_below rC_above rC_unsureWords rC_unsureWorths)]) rfl
          have hFc := va_freeM hD hS hA _ hMs
          refine va_calli (va_runV (As := []) (rest := [.int z_5934]) ⟨hx, hb, hml, hown, hts⟩ (tX1_unsureSets l dC dI _ oC iC_nodes iC_words iC_chances iC_unsures iC_slips iC_throneNode iC_saidWorth iC_unit rC_kind rC_parts rC_partNodes rC_weights rC_weightSums rC_toldWorths rC_steps rC_below rC_above rC_unsureWords rC_unsureWorths b_iC_nodes b_iC_unsures b_iC_throneNode) (cwV 0 hts (wd_V wd_1165 wd_1166 wd_1167 wd_19 (wd_c wd_1168)) rfl rfl rfl dv_yX1_unsureSets_0 ⟨Nat.le_of_ble_eq_true rfl, Nat.le_of_ble_eq_true rfl⟩) ⟨Pw.fb, recvX1 hK hP (q0 := 1) rfl, fun U hU hW => Pw.to (hP.ms _ hMs) (hD.ms _ hMs) (hK.ms [false, false, false, false, false, false, false, false, false, false] rfl) hE hS hFc hU hW⟩ rfl rfl hl.1 rfl (lv_room (Nat.le_of_ble_eq_true rfl)) dX6_surely_39 ⟨Nat.le_of_ble_eq_true rfl, Nat.le_of_ble_eq_true rfl⟩) hS (fun q _ h => hFc q h) hFc (fun r u t H locs ht hvm hw hB hz1 hk1 hS => ?_)
          have hru9 := hw.2
          have hw := hw.1
          obtain ⟨hP, hD⟩ := Bw.goN (ws' := [(oc6 oK oR oC oS oT rK_images iK_imageCount oA oH oL x_5913 iK_latestFault iK_latestPlace), (oc1 oC iC_nodes iC_words iC_chances iC_unsures iC_slips iC_throneNode iC_saidWorth iC_unit rC_kind rC_parts rC_partNodes rC_weights rC_weightSums rC_toldWorths rC_steps rC_below rC_above rC_unsureWords rC_unsureWorths), (arI rC_kind kC_kind 18 fC_kind), (arI rC_parts kC_parts 18 fC_parts), (arI rC_partNodes kC_partNodes 72 fC_partNodes), (arI rC_weights kC_weights 72 fC_weights), (arI rC_weightSums kC_weightSums 18 fC_weightSums), (arI rC_toldWorths kC_toldWorths 18 fC_toldWorths), (arI rC_unsureWords kC_unsureWords 4 fC_unsureWords), (arI rC_unsureWorths kC_unsureWorths 4 fC_unsureWorths), (oc4 oL rL_values rL_supposed), (arI rL_values kL_values 18 f_5917), (arI rL_supposed kL_supposed 18 f_5918)]) hB rfl ht hP hD _ hMs hk1 hFc rfl
          clear hz1 hk1 hvm ht hB hMs
          obtain ⟨x_5937, rfl⟩ : ∃ z, z = r := ⟨_, rfl⟩
          have hG := hG.trans (lt_eq hru9.symm)
          have rg_x_5937 := fb_rng x_5937
          have ux_5937 := hw.2
          refine lv_icmp_ge (tgt := 64) hx hb dX6_surely_42 (by decide) (fun c_5938 => ?_) (fun c_5938 => ?_)
          · skip
            have hG := hG.trans (if_pos c_5938)
            have gc_5938 := ti_le c_5938 rfl rfl
            refine lv_iload_n hx hb dX6_surely_64 rfl (lv_at hl 1 rfl) ?_
            exact wq_i hx hb hr (cI z_5935) ⟨⟨trivial, trivial⟩, (cI_of z_5935)⟩ (fun t ht hW => ⟨x_5913, f_5917, f_5918, (cI_tup hG), Bw.to hP hD hK ht hW⟩) hS dX6_surely_65 hlocks
          · skip
            have hG := hG.trans (if_neg c_5938)
            have gc_5938 := ti_nle c_5938 rfl rfl
            refine lv_iload_n hx hb dX6_surely_45 rfl (lv_at hl 2 rfl) ?_
            refine lv_iload_n hx hb dX6_surely_46 rfl (lv_at hl 0 rfl) ?_
            refine lv_ishr hx hb dX6_surely_47 ?_
            refine lv_topi (fun x_5939 ex_5939 => ?_)
            have hG := hG.trans (lt_eq ex_5939)
            have rg_x_5939 := fb_rng x_5939
            refine lv_iconst (v := 1) hx hb dX6_surely_48 (by decide) ?_
            refine lv_iand hx hb dX6_surely_49 ?_
            refine lv_topi (fun x_5940 ex_5940 => ?_)
            have hG := hG.trans (lt_eq ex_5940)
            have rg_x_5940 := fb_rng x_5940
            refine lv_iconst (v := 1) hx hb dX6_surely_50 (by decide) ?_
            refine lv_icmp_ne (tgt := 58) hx hb dX6_surely_51 (by decide) (fun c_5941 => ?_) (fun c_5941 => ?_)
            · skip
              have hG := hG.trans (if_neg c_5941)
              have gc_5941 := ti_ne c_5941 rfl kc_1
              obtain ⟨x_5942, ex_5942⟩ : ∃ z : Int32, z = z_5934 + Int32.ofInt 1 := ⟨_, rfl⟩
              have hG := hG.trans (lt_eq ex_5942)
              have vx_5942 : x_5942.toInt = z_5934.toInt + 1 := ti_add (y := 1) ex_5942 rfl kc_1 (om_4e4fce7e hi0_n_5936.1) (om_26fca3fc ux_5937.2 gc_5938)
              refine lv_iinc (v := x_5942) (lv' := [(3, .int x_5942), (2, .int z_5935), (1, .int x_5919), (0, .ref oK)]) hx hb dX6_surely_58 hl (k := 0) rfl ex_5942.symm (by decide) rfl (fun ls hl => ?_)
              refine lv_goto (tgt := 34) hx hb dX6_surely_61 (by decide) ?_
              exact ih_n_5936 x_5942 z_5935 _ _ _  ⟨(om_83b90de5 hi0_n_5936.1 vx_5942), (om_4b156bce ux_5937.2 gc_5938 vx_5942)⟩ (ms_lt hm_n_5936 (om_b9393183 vx_5942) (om_33376cd8 ux_5937.2 gc_5938)) hG hP hD hS (lv_sub hl [0, 1, 2, 3] rfl)
            · skip
              have hG := hG.trans (if_pos c_5941)
              have gc_5941 := ti_eq c_5941 rfl kc_1
              refine lv_iload_n hx hb dX6_surely_54 rfl (lv_at hl 1 rfl) ?_
              refine lv_iload_n hx hb dX6_surely_55 rfl (lv_at hl 0 rfl) ?_
              refine lv_iand hx hb dX6_surely_56 ?_
              refine lv_topi (fun x_5943 ex_5943 => ?_)
              have hG := hG.trans (lt_eq ex_5943)
              have rg_x_5943 := fb_rng x_5943
              refine lv_istore_n (lv' := [(2, .int x_5943), (3, .int z_5934), (1, .int x_5919), (0, .ref oK)]) hx hb dX6_surely_57 rfl hl (by decide) rfl (fun ls hl => ?_)
              obtain ⟨x_5944, ex_5944⟩ : ∃ z : Int32, z = z_5934 + Int32.ofInt 1 := ⟨_, rfl⟩
              have hG := hG.trans (lt_eq ex_5944)
              have vx_5944 : x_5944.toInt = z_5934.toInt + 1 := ti_add (y := 1) ex_5944 rfl kc_1 (om_4e4fce7e hi0_n_5936.1) (om_26fca3fc ux_5937.2 gc_5938)
              refine lv_iinc (v := x_5944) (lv' := [(3, .int x_5944), (2, .int x_5943), (1, .int x_5919), (0, .ref oK)]) hx hb dX6_surely_58 hl (k := 1) rfl ex_5944.symm (by decide) rfl (fun ls hl => ?_)
              refine lv_goto (tgt := 34) hx hb dX6_surely_61 (by decide) ?_
              exact ih_n_5936 x_5944 x_5943 _ _ _  ⟨(om_83b90de5 hi0_n_5936.1 vx_5944), (om_4b156bce ux_5937.2 gc_5938 vx_5944)⟩ (ms_lt hm_n_5936 (om_b9393183 vx_5944) (om_33376cd8 ux_5937.2 gc_5938)) hG hP hD hS (lv_sub hl [0, 1, 2, 3] rfl)
      exact key_n_5936 (((2147483647 - (0 : Int32).toInt).toNat) + 1) 0 0 _ _ _  ⟨(om_b1de7dbe kc_0), (om_daf17c64 kc_0)⟩ (Nat.lt_add_one _) hG hP hD hS hl
  · skip
    have hG := hG.trans (un2_eq e_x_5913_0)
    have hG := hG.trans (if_neg (by decide))
    refine lv_if_eq (tgt := 9) hx hb dX6_surely_4 (by decide) (fun c => absurd c (by decide)) (fun _ => ?_)
    refine lv_iconst (v := (-1)) hx hb dX6_surely_7 (by decide) ?_
    exact wq_i hx hb hr (cI (-1)) ⟨⟨trivial, trivial⟩, (cI_of (-1))⟩ (fun t ht hW => ⟨x_5913, fL_values, fL_supposed, (cI_tup hG), Bw.to hP hD hK ht hW⟩) hS dX6_surely_8 hlocks
set_option maxHeartbeats 4000000 in
set_option maxRecDepth 100000 in
theorem tX6_ask (l : Launch) (dC : Nat → ClassId) (dI : Nat → Nat → Nat) (sz : Nat) (oK : Nat) (oR : Nat) (oC : Nat) (oS : Nat) (oT : Nat) (rK_images : Nat) (iK_imageCount : Int32) (oA : Nat) (oH : Nat) (oL : Nat) (iK_refusal : Int32) (iK_latestFault : Int32) (iK_latestPlace : Int32) (iC_nodes : Int32) (iC_words : Int32) (iC_chances : Int32) (iC_unsures : Int32) (iC_slips : Int32) (iC_throneNode : Int32) (iC_saidWorth : Int32) (iC_unit : Int32) (rC_kind : Nat) (fC_kind : Nat → Int32) (kC_kind : ClassId) (rC_parts : Nat) (fC_parts : Nat → Int32) (kC_parts : ClassId) (rC_partNodes : Nat) (fC_partNodes : Nat → Int32) (kC_partNodes : ClassId) (rC_weights : Nat) (fC_weights : Nat → Int32) (kC_weights : ClassId) (rC_weightSums : Nat) (fC_weightSums : Nat → Int32) (kC_weightSums : ClassId) (rC_toldWorths : Nat) (fC_toldWorths : Nat → Int32) (kC_toldWorths : ClassId) (rC_steps : Nat) (rC_below : Nat) (rC_above : Nat) (rC_unsureWords : Nat) (fC_unsureWords : Nat → Int32) (kC_unsureWords : ClassId) (rC_unsureWorths : Nat) (fC_unsureWorths : Nat → Int32) (kC_unsureWorths : ClassId) (rL_values : Nat) (fL_values : Nat → Int32) (kL_values : ClassId) (rL_supposed : Nat) (fL_supposed : Nat → Int32) (kL_supposed : ClassId) (b_iK_imageCount : 0 ≤ iK_imageCount.toInt ∧ iK_imageCount.toInt ≤ 3) (b_iC_nodes : 0 ≤ iC_nodes.toInt ∧ iC_nodes.toInt ≤ 18) (b_iC_unsures : 0 ≤ iC_unsures.toInt ∧ iC_unsures.toInt ≤ 4) (b_iC_throneNode : (-1) ≤ iC_throneNode.toInt ∧ iC_throneNode.toInt ≤ 17) (a_fC_parts : ∀ j : Nat, j < 18 → 0 ≤ (fC_parts j).toInt ∧ (fC_parts j).toInt ≤ 4) (a_fC_partNodes : ∀ j : Nat, j < 72 → 0 ≤ (fC_partNodes j).toInt ∧ (fC_partNodes j).toInt ≤ 17) (a_fC_unsureWords : ∀ j : Nat, j < 4 → 0 ≤ (fC_unsureWords j).toInt ∧ (fC_unsureWords j).toInt ≤ 17)  : Met l yX6_ask (Cond.code yX6_ask cX6_ask 3 (some .int) :: wG) ({ frames := 5, cells := 0, slots := 0, locals := 118 }) (va_Pc [.ref oK] (Pw dC dI sz [(oc6 oK oR oC oS oT rK_images iK_imageCount oA oH oL iK_refusal iK_latestFault iK_latestPlace), (oc1 oC iC_nodes iC_words iC_chances iC_unsures iC_slips iC_throneNode iC_saidWorth iC_unit rC_kind rC_parts rC_partNodes rC_weights rC_weightSums rC_toldWorths rC_steps rC_below rC_above rC_unsureWords rC_unsureWorths), (arI rC_kind kC_kind 18 fC_kind), (arI rC_parts kC_parts 18 fC_parts), (arI rC_partNodes kC_partNodes 72 fC_partNodes), (arI rC_weights kC_weights 72 fC_weights), (arI rC_weightSums kC_weightSums 18 fC_weightSums), (arI rC_toldWorths kC_toldWorths 18 fC_toldWorths), (arI rC_unsureWords kC_unsureWords 4 fC_unsureWords), (arI rC_unsureWorths kC_unsureWorths 4 fC_unsureWorths), (oc4 oL rL_values rL_supposed), (arI rL_values kL_values 18 fL_values), (arI rL_supposed kL_supposed 18 fL_supposed)] [(kC_kind, .int), (kC_parts, .int), (kC_partNodes, .int), (kC_weights, .int), (kC_weightSums, .int), (kC_toldWorths, .int), (kC_unsureWords, .int), (kC_unsureWorths, .int), (kL_values, .int), (kL_supposed, .int)])) (va_Qi (fun (r : Int32) (_ : Nat) => True ∧ True) (fun (_ : Nat) (t : State) => ∃ (niK_refusal : Int32) (nfL_values : Nat → Int32) (nfL_supposed : Nat → Int32), Bw dC dI (va_A [(oc6 oK oR oC oS oT rK_images iK_imageCount oA oH oL iK_refusal iK_latestFault iK_latestPlace), (oc1 oC iC_nodes iC_words iC_chances iC_unsures iC_slips iC_throneNode iC_saidWorth iC_unit rC_kind rC_parts rC_partNodes rC_weights rC_weightSums rC_toldWorths rC_steps rC_below rC_above rC_unsureWords rC_unsureWorths), (arI rC_kind kC_kind 18 fC_kind), (arI rC_parts kC_parts 18 fC_parts), (arI rC_partNodes kC_partNodes 72 fC_partNodes), (arI rC_weights kC_weights 72 fC_weights), (arI rC_weightSums kC_weightSums 18 fC_weightSums), (arI rC_toldWorths kC_toldWorths 18 fC_toldWorths), (arI rC_unsureWords kC_unsureWords 4 fC_unsureWords), (arI rC_unsureWorths kC_unsureWorths 4 fC_unsureWorths), (oc4 oL rL_values rL_supposed), (arI rL_values kL_values 18 fL_values), (arI rL_supposed kL_supposed 18 fL_supposed)] sz) [(oc6 oK oR oC oS oT rK_images iK_imageCount oA oH oL niK_refusal iK_latestFault iK_latestPlace), (oc1 oC iC_nodes iC_words iC_chances iC_unsures iC_slips iC_throneNode iC_saidWorth iC_unit rC_kind rC_parts rC_partNodes rC_weights rC_weightSums rC_toldWorths rC_steps rC_below rC_above rC_unsureWords rC_unsureWorths), (arI rC_kind kC_kind 18 fC_kind), (arI rC_parts kC_parts 18 fC_parts), (arI rC_partNodes kC_partNodes 72 fC_partNodes), (arI rC_weights kC_weights 72 fC_weights), (arI rC_weightSums kC_weightSums 18 fC_weightSums), (arI rC_toldWorths kC_toldWorths 18 fC_toldWorths), (arI rC_unsureWords kC_unsureWords 4 fC_unsureWords), (arI rC_unsureWorths kC_unsureWorths 4 fC_unsureWorths), (oc4 oL rL_values rL_supposed), (arI rL_values kL_values 18 nfL_values), (arI rL_supposed kL_supposed 18 nfL_supposed)] [(kC_kind, .int), (kC_parts, .int), (kC_partNodes, .int), (kC_weights, .int), (kC_weightSums, .int), (kC_toldWorths, .int), (kC_unsureWords, .int), (kC_unsureWorths, .int), (kL_values, .int), (kL_supposed, .int)] t) (va_A [(oc6 oK oR oC oS oT rK_images iK_imageCount oA oH oL iK_refusal iK_latestFault iK_latestPlace), (oc1 oC iC_nodes iC_words iC_chances iC_unsures iC_slips iC_throneNode iC_saidWorth iC_unit rC_kind rC_parts rC_partNodes rC_weights rC_weightSums rC_toldWorths rC_steps rC_below rC_above rC_unsureWords rC_unsureWorths), (arI rC_kind kC_kind 18 fC_kind), (arI rC_parts kC_parts 18 fC_parts), (arI rC_partNodes kC_partNodes 72 fC_partNodes), (arI rC_weights kC_weights 72 fC_weights), (arI rC_weightSums kC_weightSums 18 fC_weightSums), (arI rC_toldWorths kC_toldWorths 18 fC_toldWorths), (arI rC_unsureWords kC_unsureWords 4 fC_unsureWords), (arI rC_unsureWorths kC_unsureWorths 4 fC_unsureWorths), (oc4 oL rL_values rL_supposed), (arI rL_values kL_values 18 fL_values), (arI rL_supposed kL_supposed 18 fL_supposed)] sz)) 0 0 (va_A [(oc6 oK oR oC oS oT rK_images iK_imageCount oA oH oL iK_refusal iK_latestFault iK_latestPlace), (oc1 oC iC_nodes iC_words iC_chances iC_unsures iC_slips iC_throneNode iC_saidWorth iC_unit rC_kind rC_parts rC_partNodes rC_weights rC_weightSums rC_toldWorths rC_steps rC_below rC_above rC_unsureWords rC_unsureWorths), (arI rC_kind kC_kind 18 fC_kind), (arI rC_parts kC_parts 18 fC_parts), (arI rC_partNodes kC_partNodes 72 fC_partNodes), (arI rC_weights kC_weights 72 fC_weights), (arI rC_weightSums kC_weightSums 18 fC_weightSums), (arI rC_toldWorths kC_toldWorths 18 fC_toldWorths), (arI rC_unsureWords kC_unsureWords 4 fC_unsureWords), (arI rC_unsureWorths kC_unsureWorths 4 fC_unsureWorths), (oc4 oL rL_values rL_supposed), (arI rL_values kL_values 18 fL_values), (arI rL_supposed kL_supposed 18 fL_supposed)] sz) := by
  refine Met.ofW (cc := cX6_ask) (maxL := 3) (ret := (some .int)) pnX6 rfl ?_
  intro p e s m args below meth c s₁ B hml hv
  obtain ⟨rfl, hsz, hP, hK, hD0, hE⟩ := hv
  have hx := B.exec
  have hb := B.bytes
  have hr := B.returns
  have hts : ∀ w ∈ wG, w.before ([.ref oK] : List Value).toArray s = true := fun w h => atoms_spec (ws := Cond.code yX6_ask cX6_ask 3 (some .int) :: wG) B.pre w (List.mem_cons_of_mem _ h)
  have hown : s.vm.findClass RX6 = some m.cls := own_of B.named rfl
  have hlocks := B.notSynchronized
  subst hsz
  have hD := hD0.self (sz := s.heap.size)
  generalize hAe : va_A [(oc6 oK oR oC oS oT rK_images iK_imageCount oA oH oL iK_refusal iK_latestFault iK_latestPlace), (oc1 oC iC_nodes iC_words iC_chances iC_unsures iC_slips iC_throneNode iC_saidWorth iC_unit rC_kind rC_parts rC_partNodes rC_weights rC_weightSums rC_toldWorths rC_steps rC_below rC_above rC_unsureWords rC_unsureWorths), (arI rC_kind kC_kind 18 fC_kind), (arI rC_parts kC_parts 18 fC_parts), (arI rC_partNodes kC_partNodes 72 fC_partNodes), (arI rC_weights kC_weights 72 fC_weights), (arI rC_weightSums kC_weightSums 18 fC_weightSums), (arI rC_toldWorths kC_toldWorths 18 fC_toldWorths), (arI rC_unsureWords kC_unsureWords 4 fC_unsureWords), (arI rC_unsureWorths kC_unsureWorths 4 fC_unsureWorths), (oc4 oL rL_values rL_supposed), (arI rL_values kL_values 18 fL_values), (arI rL_supposed kL_supposed 18 fL_supposed)] s.heap.size = A at hD hE ⊢
  have hA : ∀ q : Nat, s.heap.size ≤ q → A q := fun q h => by rw [← hAe]; exact Or.inr h
  have hS : va_S A s.heap s.heap [] := va_S.rf
  have hl := lv_entry ([.ref oK]) (n := 3) (Nat.le_of_ble_eq_true rfl)
  rw [lg_entry_eq]
  generalize (lg_sl ([.ref oK]) ++ List.replicate (3 - (lg_sl ([.ref oK])).length) Slot.unset).toArray = ls at hl ⊢
  have hl : lv_has ls 3 [(0, .ref oK)] := hl
  refine lv_aload_n hx hb dX6_ask_0 rfl (lv_at hl 0 rfl) ?_
  have hMs := ml_of hD [true, true, false, false, false, false, false, false, false, false, false, false, false] (wc := [(oc6 oK oR oC oS oT rK_images iK_imageCount oA oH oL iK_refusal iK_latestFault iK_latestPlace), (oc1 oC iC_nodes iC_words iC_chances iC_unsures iC_slips iC_throneNode iC_saidWorth iC_unit rC_kind rC_parts rC_partNodes rC_weights rC_weightSums rC_toldWorths rC_steps rC_below rC_above rC_unsureWords rC_unsureWorths)]) rfl
  have hFc := va_freeM hD hS hA _ hMs
  refine va_calli (va_runV (As := []) (rest := []) ⟨hx, hb, hml, hown, hts⟩ (tX6_lacksCourt l dC dI _ oK oR oC oS oT rK_images iK_imageCount oA oH oL iK_refusal iK_latestFault iK_latestPlace iC_nodes iC_words iC_chances iC_unsures iC_slips iC_throneNode iC_saidWorth iC_unit rC_kind rC_parts rC_partNodes rC_weights rC_weightSums rC_toldWorths rC_steps rC_below rC_above rC_unsureWords rC_unsureWorths b_iK_imageCount b_iC_nodes b_iC_unsures b_iC_throneNode) (cwV 0 hts (wd_V wd_596 wd_597 wd_598 wd_2 (wd_c wd_599)) rfl rfl rfl dv_yX6_lacksCourt_0 ⟨Nat.le_of_ble_eq_true rfl, Nat.le_of_ble_eq_true rfl⟩) ⟨Pw.fb, recvX6 hK hP (q0 := 0) rfl, fun U hU hW => Pw.to (hP.ms _ hMs) (hD.ms _ hMs) (hK.ms [false, false, false, false, false, false, false, false, false, false] rfl) hE hS hFc hU hW⟩ rfl rfl hl.1 rfl (lv_room (Nat.le_of_ble_eq_true rfl)) dX6_ask_1 ⟨Nat.le_of_ble_eq_true rfl, Nat.le_of_ble_eq_true rfl⟩) hS (fun q _ h => hFc q h) hFc (fun r u t H locs ht hvm hw hB hz1 hk1 hS => ?_)
  have hru9 := hw.2
  have hw := hw.1
  refine ex_1_2 hB (fun x_5956 b_x_5956 e_x_5956_0 hB => ?_)
  obtain ⟨hP, hD⟩ := Bw.goN (ws' := [(oc6 oK oR oC oS oT rK_images iK_imageCount oA oH oL x_5956 iK_latestFault iK_latestPlace), (oc1 oC iC_nodes iC_words iC_chances iC_unsures iC_slips iC_throneNode iC_saidWorth iC_unit rC_kind rC_parts rC_partNodes rC_weights rC_weightSums rC_toldWorths rC_steps rC_below rC_above rC_unsureWords rC_unsureWorths), (arI rC_kind kC_kind 18 fC_kind), (arI rC_parts kC_parts 18 fC_parts), (arI rC_partNodes kC_partNodes 72 fC_partNodes), (arI rC_weights kC_weights 72 fC_weights), (arI rC_weightSums kC_weightSums 18 fC_weightSums), (arI rC_toldWorths kC_toldWorths 18 fC_toldWorths), (arI rC_unsureWords kC_unsureWords 4 fC_unsureWords), (arI rC_unsureWorths kC_unsureWorths 4 fC_unsureWorths), (oc4 oL rL_values rL_supposed), (arI rL_values kL_values 18 fL_values), (arI rL_supposed kL_supposed 18 fL_supposed)]) hB rfl ht hP hD _ hMs hk1 hFc rfl
  clear hz1 hk1 hvm ht hB hMs
  rcases hw.2 with ⟨rfl, hc_5957⟩ | ⟨rfl, hc_5957⟩
  · skip
    refine lv_if_eq (tgt := 9) hx hb dX6_ask_4 (by decide) (fun _ => ?_) (fun c => absurd c (by decide))
    refine lv_aload_n hx hb dX6_ask_9 rfl (lv_at hl 0 rfl) ?_
    have hFc := va_freeI hD hS hA
    refine va_calli (va_runV (As := []) (rest := []) ⟨hx, hb, hml, hown, hts⟩ (tX6_fittingSets l dC dI _ oK oR oC oS oT rK_images iK_imageCount oA oH oL x_5956 iK_latestFault iK_latestPlace iC_nodes iC_words iC_chances iC_unsures iC_slips iC_throneNode iC_saidWorth iC_unit rC_kind fC_kind kC_kind rC_parts fC_parts kC_parts rC_partNodes fC_partNodes kC_partNodes rC_weights fC_weights kC_weights rC_weightSums fC_weightSums kC_weightSums rC_toldWorths fC_toldWorths kC_toldWorths rC_steps rC_below rC_above rC_unsureWords fC_unsureWords kC_unsureWords rC_unsureWorths fC_unsureWorths kC_unsureWorths rL_values fL_values kL_values rL_supposed fL_supposed kL_supposed b_iK_imageCount b_iC_nodes b_iC_unsures b_iC_throneNode a_fC_parts a_fC_partNodes a_fC_unsureWords) (cwV 0 hts (wd_V wd_1159 wd_1160 wd_1161 wd_2 (wd_c wd_1162)) rfl rfl rfl dv_yX6_fittingSets_0 ⟨Nat.le_of_ble_eq_true rfl, Nat.le_of_ble_eq_true rfl⟩) ⟨Pw.fb, recvX6 hK hP (q0 := 0) rfl, fun U hU hW => Pw.to hP hD hK hE hS hFc hU hW⟩ rfl rfl hl.1 rfl (lv_room (Nat.le_of_ble_eq_true rfl)) dX6_ask_10 ⟨Nat.le_of_ble_eq_true rfl, Nat.le_of_ble_eq_true rfl⟩) hS (fun q _ h => hFc q h) hFc (fun r u t H locs ht hvm hw hB hz1 hk1 hS => ?_)
    have hru9 := hw.2
    have hw := hw.1
    refine ex_2_1 hB (fun f_5959 f_5960 e_f_5959_0 hB => ?_)
    obtain ⟨hP, hD⟩ := Bw.goA (ws' := [(oc6 oK oR oC oS oT rK_images iK_imageCount oA oH oL x_5956 iK_latestFault iK_latestPlace), (oc1 oC iC_nodes iC_words iC_chances iC_unsures iC_slips iC_throneNode iC_saidWorth iC_unit rC_kind rC_parts rC_partNodes rC_weights rC_weightSums rC_toldWorths rC_steps rC_below rC_above rC_unsureWords rC_unsureWorths), (arI rC_kind kC_kind 18 fC_kind), (arI rC_parts kC_parts 18 fC_parts), (arI rC_partNodes kC_partNodes 72 fC_partNodes), (arI rC_weights kC_weights 72 fC_weights), (arI rC_weightSums kC_weightSums 18 fC_weightSums), (arI rC_toldWorths kC_toldWorths 18 fC_toldWorths), (arI rC_unsureWords kC_unsureWords 4 fC_unsureWords), (arI rC_unsureWorths kC_unsureWorths 4 fC_unsureWorths), (oc4 oL rL_values rL_supposed), (arI rL_values kL_values 18 f_5959), (arI rL_supposed kL_supposed 18 f_5960)]) hB rfl ht hFc rfl
    clear hz1 hk1 hvm ht hB
    obtain ⟨x_5961, rfl⟩ : ∃ z, z = r := ⟨_, rfl⟩
    refine lv_istore_n (lv' := [(1, .int x_5961), (0, .ref oK)]) hx hb dX6_ask_13 rfl hl (by decide) rfl (fun ls hl => ?_)
    refine lv_aload_n hx hb dX6_ask_14 rfl (lv_at hl 1 rfl) ?_
    refine lv_iload_n hx hb dX6_ask_15 rfl (lv_at hl 0 rfl) ?_
    have hMs := ml_of hD [true, true, false, false, false, false, false, false, false, false, false, false, false] (wc := [(oc6 oK oR oC oS oT rK_images iK_imageCount oA oH oL x_5956 iK_latestFault iK_latestPlace), (oc1 oC iC_nodes iC_words iC_chances iC_unsures iC_slips iC_throneNode iC_saidWorth iC_unit rC_kind rC_parts rC_partNodes rC_weights rC_weightSums rC_toldWorths rC_steps rC_below rC_above rC_unsureWords rC_unsureWorths)]) rfl
    have hFc := va_freeM hD hS hA _ hMs
    refine va_calli (va_runV (As := [.int x_5961]) (rest := []) ⟨hx, hb, hml, hown, hts⟩ (tX6_unsureToAsk l dC dI _ oK oR oC oS oT rK_images iK_imageCount oA oH oL x_5956 iK_latestFault iK_latestPlace iC_nodes iC_words iC_chances iC_unsures iC_slips iC_throneNode iC_saidWorth iC_unit rC_kind rC_parts rC_partNodes rC_weights rC_weightSums rC_toldWorths rC_steps rC_below rC_above rC_unsureWords rC_unsureWorths x_5961 b_iK_imageCount b_iC_nodes b_iC_unsures b_iC_throneNode) (cwV 1 hts (wd_V wd_1225 wd_1226 wd_1227 wd_2 (wd_c wd_1228)) rfl rfl rfl dv_yX6_unsureToAsk_1 ⟨Nat.le_of_ble_eq_true rfl, Nat.le_of_ble_eq_true rfl⟩) ⟨Pw.fb, recvX6 hK hP (q0 := 0) rfl, fun U hU hW => Pw.to (hP.ms _ hMs) (hD.ms _ hMs) (hK.ms [false, false, false, false, false, false, false, false, false, false] rfl) hE hS hFc hU hW⟩ rfl rfl hl.1 rfl (lv_room (Nat.le_of_ble_eq_true rfl)) dX6_ask_16 ⟨Nat.le_of_ble_eq_true rfl, Nat.le_of_ble_eq_true rfl⟩) hS (fun q _ h => hFc q h) hFc (fun r u t H locs ht hvm hw hB hz1 hk1 hS => ?_)
    have hru9 := hw.2
    have hw := hw.1
    obtain ⟨hP, hD⟩ := Bw.goN (ws' := [(oc6 oK oR oC oS oT rK_images iK_imageCount oA oH oL x_5956 iK_latestFault iK_latestPlace), (oc1 oC iC_nodes iC_words iC_chances iC_unsures iC_slips iC_throneNode iC_saidWorth iC_unit rC_kind rC_parts rC_partNodes rC_weights rC_weightSums rC_toldWorths rC_steps rC_below rC_above rC_unsureWords rC_unsureWorths), (arI rC_kind kC_kind 18 fC_kind), (arI rC_parts kC_parts 18 fC_parts), (arI rC_partNodes kC_partNodes 72 fC_partNodes), (arI rC_weights kC_weights 72 fC_weights), (arI rC_weightSums kC_weightSums 18 fC_weightSums), (arI rC_toldWorths kC_toldWorths 18 fC_toldWorths), (arI rC_unsureWords kC_unsureWords 4 fC_unsureWords), (arI rC_unsureWorths kC_unsureWorths 4 fC_unsureWorths), (oc4 oL rL_values rL_supposed), (arI rL_values kL_values 18 f_5959), (arI rL_supposed kL_supposed 18 f_5960)]) hB rfl ht hP hD _ hMs hk1 hFc rfl
    clear hz1 hk1 hvm ht hB hMs
    obtain ⟨x_5962, rfl⟩ : ∃ z, z = r := ⟨_, rfl⟩
    have ux_5962 := hw.2
    refine lv_istore_n (lv' := [(2, .int x_5962), (1, .int x_5961), (0, .ref oK)]) hx hb dX6_ask_19 rfl hl (by decide) rfl (fun ls hl => ?_)
    refine lv_iload_n hx hb dX6_ask_20 rfl (lv_at hl 0 rfl) ?_
    refine lv_if_ge (tgt := 29) hx hb dX6_ask_21 (by decide) (fun c_5963 => ?_) (fun c_5963 => ?_)
    · skip
      have gc_5963 := ti_le c_5963 kc_0 rfl
      refine lv_aload_n hx hb dX6_ask_29 rfl (lv_at hl 2 rfl) ?_
      refine va_get (D := (dC, dI)) (ci := 6) (v := .ref oC) (C := RX6) (T := TX6) (N := 12) hx hb hts inX6 hown hK hP 0 rfl rfl 1 (by decide) (hts _ wd_20) (fun _ h9 => h9) rfl dX6_ask_30 ?_
      refine va_get (D := (dC, dI)) (ci := 1) (v := .ref rC_unsureWords) (C := RX1) (T := TX1) (N := 19) hx hb hts inX1 hown hK hP 1 rfl rfl 17 (by decide) (hts _ wd_1224) (fun _ h9 => h9) rfl dX6_ask_33 ?_
      refine lv_iload_n hx hb dX6_ask_36 rfl (lv_at hl 0 rfl) ?_
      refine va_iald hx hb hK hP 8 6 rfl rfl (ti_in rfl gc_5963 (om_27df6bf1 ux_5962.2)) dX6_ask_37 ?_
      refine lv_topi (fun x_5964 ex_5964 => ?_)
      have kx_5964 : (fC_unsureWords x_5962.toNatClampNeg).toInt = x_5964.toInt := by rw [ex_5964]
      have ux_5964 := a_fC_unsureWords x_5962.toNatClampNeg (cl_lt rfl gc_5963 (om_27df6bf1 ux_5962.2))
      rw [show fC_unsureWords x_5962.toNatClampNeg = x_5964 from ex_5964.symm] at ux_5964
      exact wq_i hx hb hr 0 ⟨trivial, trivial⟩ (fun t ht hW => ⟨x_5956, f_5959, f_5960, Bw.to hP hD hK ht hW⟩) hS dX6_ask_38 hlocks
    · skip
      have gc_5963 := ti_nle c_5963 kc_0 rfl
      refine lv_bipush (v := (-2)) hx hb dX6_ask_24 (by decide) ?_
      refine lv_goto (tgt := 38) hx hb dX6_ask_26 (by decide) ?_
      exact wq_i hx hb hr 0 ⟨trivial, trivial⟩ (fun t ht hW => ⟨x_5956, f_5959, f_5960, Bw.to hP hD hK ht hW⟩) hS dX6_ask_38 hlocks
  · skip
    refine lv_if_eq (tgt := 9) hx hb dX6_ask_4 (by decide) (fun c => absurd c (by decide)) (fun _ => ?_)
    refine lv_iconst (v := (-1)) hx hb dX6_ask_7 (by decide) ?_
    exact wq_i hx hb hr 0 ⟨trivial, trivial⟩ (fun t ht hW => ⟨x_5956, fL_values, fL_supposed, Bw.to hP hD hK ht hW⟩) hS dX6_ask_8 hlocks
set_option maxHeartbeats 4000000 in
set_option maxRecDepth 100000 in
theorem tX6_askLeaves (l : Launch) (dC : Nat → ClassId) (dI : Nat → Nat → Nat) (sz : Nat) (oK : Nat) (oR : Nat) (oC : Nat) (oS : Nat) (oT : Nat) (rK_images : Nat) (iK_imageCount : Int32) (oA : Nat) (oH : Nat) (oL : Nat) (iK_refusal : Int32) (iK_latestFault : Int32) (iK_latestPlace : Int32) (iC_nodes : Int32) (iC_words : Int32) (iC_chances : Int32) (iC_unsures : Int32) (iC_slips : Int32) (iC_throneNode : Int32) (iC_saidWorth : Int32) (iC_unit : Int32) (rC_kind : Nat) (fC_kind : Nat → Int32) (kC_kind : ClassId) (rC_parts : Nat) (fC_parts : Nat → Int32) (kC_parts : ClassId) (rC_partNodes : Nat) (fC_partNodes : Nat → Int32) (kC_partNodes : ClassId) (rC_weights : Nat) (fC_weights : Nat → Int32) (kC_weights : ClassId) (rC_weightSums : Nat) (fC_weightSums : Nat → Int32) (kC_weightSums : ClassId) (rC_toldWorths : Nat) (fC_toldWorths : Nat → Int32) (kC_toldWorths : ClassId) (rC_steps : Nat) (rC_below : Nat) (rC_above : Nat) (rC_unsureWords : Nat) (fC_unsureWords : Nat → Int32) (kC_unsureWords : ClassId) (rC_unsureWorths : Nat) (fC_unsureWorths : Nat → Int32) (kC_unsureWorths : ClassId) (rL_values : Nat) (fL_values : Nat → Int32) (kL_values : ClassId) (rL_supposed : Nat) (fL_supposed : Nat → Int32) (kL_supposed : ClassId) (b_iK_imageCount : 0 ≤ iK_imageCount.toInt ∧ iK_imageCount.toInt ≤ 3) (b_iC_nodes : 0 ≤ iC_nodes.toInt ∧ iC_nodes.toInt ≤ 18) (b_iC_unsures : 0 ≤ iC_unsures.toInt ∧ iC_unsures.toInt ≤ 4) (b_iC_throneNode : (-1) ≤ iC_throneNode.toInt ∧ iC_throneNode.toInt ≤ 17) (a_fC_parts : ∀ j : Nat, j < 18 → 0 ≤ (fC_parts j).toInt ∧ (fC_parts j).toInt ≤ 4) (a_fC_partNodes : ∀ j : Nat, j < 72 → 0 ≤ (fC_partNodes j).toInt ∧ (fC_partNodes j).toInt ≤ 17) (a_fC_unsureWords : ∀ j : Nat, j < 4 → 0 ≤ (fC_unsureWords j).toInt ∧ (fC_unsureWords j).toInt ≤ 17)  : Met l yX6_askLeaves (Cond.code yX6_askLeaves cX6_askLeaves 3 (some .int) :: wG) ({ frames := 5, cells := 0, slots := 0, locals := 118 }) (va_Pc [.ref oK] (Pw dC dI sz [(oc6 oK oR oC oS oT rK_images iK_imageCount oA oH oL iK_refusal iK_latestFault iK_latestPlace), (oc1 oC iC_nodes iC_words iC_chances iC_unsures iC_slips iC_throneNode iC_saidWorth iC_unit rC_kind rC_parts rC_partNodes rC_weights rC_weightSums rC_toldWorths rC_steps rC_below rC_above rC_unsureWords rC_unsureWorths), (arI rC_kind kC_kind 18 fC_kind), (arI rC_parts kC_parts 18 fC_parts), (arI rC_partNodes kC_partNodes 72 fC_partNodes), (arI rC_weights kC_weights 72 fC_weights), (arI rC_weightSums kC_weightSums 18 fC_weightSums), (arI rC_toldWorths kC_toldWorths 18 fC_toldWorths), (arI rC_unsureWords kC_unsureWords 4 fC_unsureWords), (arI rC_unsureWorths kC_unsureWorths 4 fC_unsureWorths), (oc4 oL rL_values rL_supposed), (arI rL_values kL_values 18 fL_values), (arI rL_supposed kL_supposed 18 fL_supposed)] [(kC_kind, .int), (kC_parts, .int), (kC_partNodes, .int), (kC_weights, .int), (kC_weightSums, .int), (kC_toldWorths, .int), (kC_unsureWords, .int), (kC_unsureWorths, .int), (kL_values, .int), (kL_supposed, .int)])) (va_Qi (fun (r : Int32) (u : Nat) => (True ∧ True) ∧ r = Int32.ofNat u) (fun (u : Nat) (t : State) => ∃ (niK_refusal : Int32) (nfL_values : Nat → Int32) (nfL_supposed : Nat → Int32), (PX6_askLeaves iC_nodes iC_unsures iC_throneNode iC_saidWorth iC_unit fC_kind fC_parts fC_partNodes fC_weights fC_weightSums fC_toldWorths fC_unsureWords fC_unsureWorths fL_values fL_supposed = (Int32.ofNat u, niK_refusal, nfL_values, nfL_supposed)) ∧ Bw dC dI (va_A [(oc6 oK oR oC oS oT rK_images iK_imageCount oA oH oL iK_refusal iK_latestFault iK_latestPlace), (oc1 oC iC_nodes iC_words iC_chances iC_unsures iC_slips iC_throneNode iC_saidWorth iC_unit rC_kind rC_parts rC_partNodes rC_weights rC_weightSums rC_toldWorths rC_steps rC_below rC_above rC_unsureWords rC_unsureWorths), (arI rC_kind kC_kind 18 fC_kind), (arI rC_parts kC_parts 18 fC_parts), (arI rC_partNodes kC_partNodes 72 fC_partNodes), (arI rC_weights kC_weights 72 fC_weights), (arI rC_weightSums kC_weightSums 18 fC_weightSums), (arI rC_toldWorths kC_toldWorths 18 fC_toldWorths), (arI rC_unsureWords kC_unsureWords 4 fC_unsureWords), (arI rC_unsureWorths kC_unsureWorths 4 fC_unsureWorths), (oc4 oL rL_values rL_supposed), (arI rL_values kL_values 18 fL_values), (arI rL_supposed kL_supposed 18 fL_supposed)] sz) [(oc6 oK oR oC oS oT rK_images iK_imageCount oA oH oL niK_refusal iK_latestFault iK_latestPlace), (oc1 oC iC_nodes iC_words iC_chances iC_unsures iC_slips iC_throneNode iC_saidWorth iC_unit rC_kind rC_parts rC_partNodes rC_weights rC_weightSums rC_toldWorths rC_steps rC_below rC_above rC_unsureWords rC_unsureWorths), (arI rC_kind kC_kind 18 fC_kind), (arI rC_parts kC_parts 18 fC_parts), (arI rC_partNodes kC_partNodes 72 fC_partNodes), (arI rC_weights kC_weights 72 fC_weights), (arI rC_weightSums kC_weightSums 18 fC_weightSums), (arI rC_toldWorths kC_toldWorths 18 fC_toldWorths), (arI rC_unsureWords kC_unsureWords 4 fC_unsureWords), (arI rC_unsureWorths kC_unsureWorths 4 fC_unsureWorths), (oc4 oL rL_values rL_supposed), (arI rL_values kL_values 18 nfL_values), (arI rL_supposed kL_supposed 18 nfL_supposed)] [(kC_kind, .int), (kC_parts, .int), (kC_partNodes, .int), (kC_weights, .int), (kC_weightSums, .int), (kC_toldWorths, .int), (kC_unsureWords, .int), (kC_unsureWorths, .int), (kL_values, .int), (kL_supposed, .int)] t) (va_A [(oc6 oK oR oC oS oT rK_images iK_imageCount oA oH oL iK_refusal iK_latestFault iK_latestPlace), (oc1 oC iC_nodes iC_words iC_chances iC_unsures iC_slips iC_throneNode iC_saidWorth iC_unit rC_kind rC_parts rC_partNodes rC_weights rC_weightSums rC_toldWorths rC_steps rC_below rC_above rC_unsureWords rC_unsureWorths), (arI rC_kind kC_kind 18 fC_kind), (arI rC_parts kC_parts 18 fC_parts), (arI rC_partNodes kC_partNodes 72 fC_partNodes), (arI rC_weights kC_weights 72 fC_weights), (arI rC_weightSums kC_weightSums 18 fC_weightSums), (arI rC_toldWorths kC_toldWorths 18 fC_toldWorths), (arI rC_unsureWords kC_unsureWords 4 fC_unsureWords), (arI rC_unsureWorths kC_unsureWorths 4 fC_unsureWorths), (oc4 oL rL_values rL_supposed), (arI rL_values kL_values 18 fL_values), (arI rL_supposed kL_supposed 18 fL_supposed)] sz)) 0 0 (va_A [(oc6 oK oR oC oS oT rK_images iK_imageCount oA oH oL iK_refusal iK_latestFault iK_latestPlace), (oc1 oC iC_nodes iC_words iC_chances iC_unsures iC_slips iC_throneNode iC_saidWorth iC_unit rC_kind rC_parts rC_partNodes rC_weights rC_weightSums rC_toldWorths rC_steps rC_below rC_above rC_unsureWords rC_unsureWorths), (arI rC_kind kC_kind 18 fC_kind), (arI rC_parts kC_parts 18 fC_parts), (arI rC_partNodes kC_partNodes 72 fC_partNodes), (arI rC_weights kC_weights 72 fC_weights), (arI rC_weightSums kC_weightSums 18 fC_weightSums), (arI rC_toldWorths kC_toldWorths 18 fC_toldWorths), (arI rC_unsureWords kC_unsureWords 4 fC_unsureWords), (arI rC_unsureWorths kC_unsureWorths 4 fC_unsureWorths), (oc4 oL rL_values rL_supposed), (arI rL_values kL_values 18 fL_values), (arI rL_supposed kL_supposed 18 fL_supposed)] sz) := by
  refine Met.ofW (cc := cX6_askLeaves) (maxL := 3) (ret := (some .int)) pnX6 rfl ?_
  intro p e s m args below meth c s₁ B hml hv
  obtain ⟨rfl, hsz, hP, hK, hD0, hE⟩ := hv
  have hx := B.exec
  have hb := B.bytes
  have hr := B.returns
  have hts : ∀ w ∈ wG, w.before ([.ref oK] : List Value).toArray s = true := fun w h => atoms_spec (ws := Cond.code yX6_askLeaves cX6_askLeaves 3 (some .int) :: wG) B.pre w (List.mem_cons_of_mem _ h)
  have hown : s.vm.findClass RX6 = some m.cls := own_of B.named rfl
  have hlocks := B.notSynchronized
  subst hsz
  have hD := hD0.self (sz := s.heap.size)
  generalize hAe : va_A [(oc6 oK oR oC oS oT rK_images iK_imageCount oA oH oL iK_refusal iK_latestFault iK_latestPlace), (oc1 oC iC_nodes iC_words iC_chances iC_unsures iC_slips iC_throneNode iC_saidWorth iC_unit rC_kind rC_parts rC_partNodes rC_weights rC_weightSums rC_toldWorths rC_steps rC_below rC_above rC_unsureWords rC_unsureWorths), (arI rC_kind kC_kind 18 fC_kind), (arI rC_parts kC_parts 18 fC_parts), (arI rC_partNodes kC_partNodes 72 fC_partNodes), (arI rC_weights kC_weights 72 fC_weights), (arI rC_weightSums kC_weightSums 18 fC_weightSums), (arI rC_toldWorths kC_toldWorths 18 fC_toldWorths), (arI rC_unsureWords kC_unsureWords 4 fC_unsureWords), (arI rC_unsureWorths kC_unsureWorths 4 fC_unsureWorths), (oc4 oL rL_values rL_supposed), (arI rL_values kL_values 18 fL_values), (arI rL_supposed kL_supposed 18 fL_supposed)] s.heap.size = A at hD hE ⊢
  have hA : ∀ q : Nat, s.heap.size ≤ q → A q := fun q h => by rw [← hAe]; exact Or.inr h
  have hS : va_S A s.heap s.heap [] := va_S.rf
  have hl := lv_entry ([.ref oK]) (n := 3) (Nat.le_of_ble_eq_true rfl)
  rw [lg_entry_eq]
  generalize (lg_sl ([.ref oK]) ++ List.replicate (3 - (lg_sl ([.ref oK])).length) Slot.unset).toArray = ls at hl ⊢
  have hl : lv_has ls 3 [(0, .ref oK)] := hl
  have hG := PX6_askLeaves_eq iC_nodes iC_unsures iC_throneNode iC_saidWorth iC_unit fC_kind fC_parts fC_partNodes fC_weights fC_weightSums fC_toldWorths fC_unsureWords fC_unsureWorths fL_values fL_supposed
  refine lv_aload_n hx hb dX6_askLeaves_0 rfl (lv_at hl 0 rfl) ?_
  have hMs := ml_of hD [true, true, false, false, false, false, false, false, false, false, false, false, false] (wc := [(oc6 oK oR oC oS oT rK_images iK_imageCount oA oH oL iK_refusal iK_latestFault iK_latestPlace), (oc1 oC iC_nodes iC_words iC_chances iC_unsures iC_slips iC_throneNode iC_saidWorth iC_unit rC_kind rC_parts rC_partNodes rC_weights rC_weightSums rC_toldWorths rC_steps rC_below rC_above rC_unsureWords rC_unsureWorths)]) rfl
  have hFc := va_freeM hD hS hA _ hMs
  refine va_calli (va_runV (As := []) (rest := []) ⟨hx, hb, hml, hown, hts⟩ (tX6_lacksCourt l dC dI _ oK oR oC oS oT rK_images iK_imageCount oA oH oL iK_refusal iK_latestFault iK_latestPlace iC_nodes iC_words iC_chances iC_unsures iC_slips iC_throneNode iC_saidWorth iC_unit rC_kind rC_parts rC_partNodes rC_weights rC_weightSums rC_toldWorths rC_steps rC_below rC_above rC_unsureWords rC_unsureWorths b_iK_imageCount b_iC_nodes b_iC_unsures b_iC_throneNode) (cwV 0 hts (wd_V wd_596 wd_597 wd_598 wd_2 (wd_c wd_599)) rfl rfl rfl dv_yX6_lacksCourt_0 ⟨Nat.le_of_ble_eq_true rfl, Nat.le_of_ble_eq_true rfl⟩) ⟨Pw.fb, recvX6 hK hP (q0 := 0) rfl, fun U hU hW => Pw.to (hP.ms _ hMs) (hD.ms _ hMs) (hK.ms [false, false, false, false, false, false, false, false, false, false] rfl) hE hS hFc hU hW⟩ rfl rfl hl.1 rfl (lv_room (Nat.le_of_ble_eq_true rfl)) dX6_askLeaves_1 ⟨Nat.le_of_ble_eq_true rfl, Nat.le_of_ble_eq_true rfl⟩) hS (fun q _ h => hFc q h) hFc (fun r u t H locs ht hvm hw hB hz1 hk1 hS => ?_)
  have hru9 := hw.2
  have hw := hw.1
  refine ex_1_2 hB (fun x_5976 b_x_5976 e_x_5976_0 hB => ?_)
  obtain ⟨hP, hD⟩ := Bw.goN (ws' := [(oc6 oK oR oC oS oT rK_images iK_imageCount oA oH oL x_5976 iK_latestFault iK_latestPlace), (oc1 oC iC_nodes iC_words iC_chances iC_unsures iC_slips iC_throneNode iC_saidWorth iC_unit rC_kind rC_parts rC_partNodes rC_weights rC_weightSums rC_toldWorths rC_steps rC_below rC_above rC_unsureWords rC_unsureWorths), (arI rC_kind kC_kind 18 fC_kind), (arI rC_parts kC_parts 18 fC_parts), (arI rC_partNodes kC_partNodes 72 fC_partNodes), (arI rC_weights kC_weights 72 fC_weights), (arI rC_weightSums kC_weightSums 18 fC_weightSums), (arI rC_toldWorths kC_toldWorths 18 fC_toldWorths), (arI rC_unsureWords kC_unsureWords 4 fC_unsureWords), (arI rC_unsureWorths kC_unsureWorths 4 fC_unsureWorths), (oc4 oL rL_values rL_supposed), (arI rL_values kL_values 18 fL_values), (arI rL_supposed kL_supposed 18 fL_supposed)]) hB rfl ht hP hD _ hMs hk1 hFc rfl
  clear hz1 hk1 hvm ht hB hMs
  rw [← hru9] at e_x_5976_0
  rcases hw.2 with ⟨rfl, hc_5977⟩ | ⟨rfl, hc_5977⟩
  · skip
    have hG := hG.trans (un2_eq e_x_5976_0)
    have hG := hG.trans (if_pos rfl)
    refine lv_if_eq (tgt := 9) hx hb dX6_askLeaves_4 (by decide) (fun _ => ?_) (fun c => absurd c (by decide))
    refine lv_aload_n hx hb dX6_askLeaves_9 rfl (lv_at hl 0 rfl) ?_
    have hFc := va_freeI hD hS hA
    refine va_calli (va_runV (As := []) (rest := []) ⟨hx, hb, hml, hown, hts⟩ (tX6_fittingSets l dC dI _ oK oR oC oS oT rK_images iK_imageCount oA oH oL x_5976 iK_latestFault iK_latestPlace iC_nodes iC_words iC_chances iC_unsures iC_slips iC_throneNode iC_saidWorth iC_unit rC_kind fC_kind kC_kind rC_parts fC_parts kC_parts rC_partNodes fC_partNodes kC_partNodes rC_weights fC_weights kC_weights rC_weightSums fC_weightSums kC_weightSums rC_toldWorths fC_toldWorths kC_toldWorths rC_steps rC_below rC_above rC_unsureWords fC_unsureWords kC_unsureWords rC_unsureWorths fC_unsureWorths kC_unsureWorths rL_values fL_values kL_values rL_supposed fL_supposed kL_supposed b_iK_imageCount b_iC_nodes b_iC_unsures b_iC_throneNode a_fC_parts a_fC_partNodes a_fC_unsureWords) (cwV 0 hts (wd_V wd_1159 wd_1160 wd_1161 wd_2 (wd_c wd_1162)) rfl rfl rfl dv_yX6_fittingSets_0 ⟨Nat.le_of_ble_eq_true rfl, Nat.le_of_ble_eq_true rfl⟩) ⟨Pw.fb, recvX6 hK hP (q0 := 0) rfl, fun U hU hW => Pw.to hP hD hK hE hS hFc hU hW⟩ rfl rfl hl.1 rfl (lv_room (Nat.le_of_ble_eq_true rfl)) dX6_askLeaves_10 ⟨Nat.le_of_ble_eq_true rfl, Nat.le_of_ble_eq_true rfl⟩) hS (fun q _ h => hFc q h) hFc (fun r u t H locs ht hvm hw hB hz1 hk1 hS => ?_)
    have hru9 := hw.2
    have hw := hw.1
    refine ex_2_1 hB (fun f_5980 f_5981 e_f_5980_0 hB => ?_)
    obtain ⟨hP, hD⟩ := Bw.goA (ws' := [(oc6 oK oR oC oS oT rK_images iK_imageCount oA oH oL x_5976 iK_latestFault iK_latestPlace), (oc1 oC iC_nodes iC_words iC_chances iC_unsures iC_slips iC_throneNode iC_saidWorth iC_unit rC_kind rC_parts rC_partNodes rC_weights rC_weightSums rC_toldWorths rC_steps rC_below rC_above rC_unsureWords rC_unsureWorths), (arI rC_kind kC_kind 18 fC_kind), (arI rC_parts kC_parts 18 fC_parts), (arI rC_partNodes kC_partNodes 72 fC_partNodes), (arI rC_weights kC_weights 72 fC_weights), (arI rC_weightSums kC_weightSums 18 fC_weightSums), (arI rC_toldWorths kC_toldWorths 18 fC_toldWorths), (arI rC_unsureWords kC_unsureWords 4 fC_unsureWords), (arI rC_unsureWorths kC_unsureWorths 4 fC_unsureWorths), (oc4 oL rL_values rL_supposed), (arI rL_values kL_values 18 f_5980), (arI rL_supposed kL_supposed 18 f_5981)]) hB rfl ht hFc rfl
    clear hz1 hk1 hvm ht hB
    rw [← hru9] at e_f_5980_0
    obtain ⟨x_5982, rfl⟩ : ∃ z, z = r := ⟨_, rfl⟩
    have hG := hG.trans (un3_eq e_f_5980_0)
    refine lv_istore_n (lv' := [(1, .int x_5982), (0, .ref oK)]) hx hb dX6_askLeaves_13 rfl hl (by decide) rfl (fun ls hl => ?_)
    refine lv_aload_n hx hb dX6_askLeaves_14 rfl (lv_at hl 1 rfl) ?_
    refine lv_iload_n hx hb dX6_askLeaves_15 rfl (lv_at hl 0 rfl) ?_
    have hMs := ml_of hD [true, true, false, false, false, false, false, false, false, false, false, false, false] (wc := [(oc6 oK oR oC oS oT rK_images iK_imageCount oA oH oL x_5976 iK_latestFault iK_latestPlace), (oc1 oC iC_nodes iC_words iC_chances iC_unsures iC_slips iC_throneNode iC_saidWorth iC_unit rC_kind rC_parts rC_partNodes rC_weights rC_weightSums rC_toldWorths rC_steps rC_below rC_above rC_unsureWords rC_unsureWorths)]) rfl
    have hFc := va_freeM hD hS hA _ hMs
    refine va_calli (va_runV (As := [.int x_5982]) (rest := []) ⟨hx, hb, hml, hown, hts⟩ (tX6_unsureToAsk l dC dI _ oK oR oC oS oT rK_images iK_imageCount oA oH oL x_5976 iK_latestFault iK_latestPlace iC_nodes iC_words iC_chances iC_unsures iC_slips iC_throneNode iC_saidWorth iC_unit rC_kind rC_parts rC_partNodes rC_weights rC_weightSums rC_toldWorths rC_steps rC_below rC_above rC_unsureWords rC_unsureWorths x_5982 b_iK_imageCount b_iC_nodes b_iC_unsures b_iC_throneNode) (cwV 1 hts (wd_V wd_1225 wd_1226 wd_1227 wd_2 (wd_c wd_1228)) rfl rfl rfl dv_yX6_unsureToAsk_1 ⟨Nat.le_of_ble_eq_true rfl, Nat.le_of_ble_eq_true rfl⟩) ⟨Pw.fb, recvX6 hK hP (q0 := 0) rfl, fun U hU hW => Pw.to (hP.ms _ hMs) (hD.ms _ hMs) (hK.ms [false, false, false, false, false, false, false, false, false, false] rfl) hE hS hFc hU hW⟩ rfl rfl hl.1 rfl (lv_room (Nat.le_of_ble_eq_true rfl)) dX6_askLeaves_16 ⟨Nat.le_of_ble_eq_true rfl, Nat.le_of_ble_eq_true rfl⟩) hS (fun q _ h => hFc q h) hFc (fun r u t H locs ht hvm hw hB hz1 hk1 hS => ?_)
    have hru9 := hw.2
    have hw := hw.1
    obtain ⟨hP, hD⟩ := Bw.goN (ws' := [(oc6 oK oR oC oS oT rK_images iK_imageCount oA oH oL x_5976 iK_latestFault iK_latestPlace), (oc1 oC iC_nodes iC_words iC_chances iC_unsures iC_slips iC_throneNode iC_saidWorth iC_unit rC_kind rC_parts rC_partNodes rC_weights rC_weightSums rC_toldWorths rC_steps rC_below rC_above rC_unsureWords rC_unsureWorths), (arI rC_kind kC_kind 18 fC_kind), (arI rC_parts kC_parts 18 fC_parts), (arI rC_partNodes kC_partNodes 72 fC_partNodes), (arI rC_weights kC_weights 72 fC_weights), (arI rC_weightSums kC_weightSums 18 fC_weightSums), (arI rC_toldWorths kC_toldWorths 18 fC_toldWorths), (arI rC_unsureWords kC_unsureWords 4 fC_unsureWords), (arI rC_unsureWorths kC_unsureWorths 4 fC_unsureWorths), (oc4 oL rL_values rL_supposed), (arI rL_values kL_values 18 f_5980), (arI rL_supposed kL_supposed 18 f_5981)]) hB rfl ht hP hD _ hMs hk1 hFc rfl
    clear hz1 hk1 hvm ht hB hMs
    obtain ⟨x_5983, rfl⟩ : ∃ z, z = r := ⟨_, rfl⟩
    have hG := hG.trans (lt_eq hru9.symm)
    have ux_5983 := hw.2
    refine lv_istore_n (lv' := [(2, .int x_5983), (1, .int x_5982), (0, .ref oK)]) hx hb dX6_askLeaves_19 rfl hl (by decide) rfl (fun ls hl => ?_)
    refine lv_iload_n hx hb dX6_askLeaves_20 rfl (lv_at hl 0 rfl) ?_
    refine lv_if_ge (tgt := 29) hx hb dX6_askLeaves_21 (by decide) (fun c_5984 => ?_) (fun c_5984 => ?_)
    · skip
      have hG := hG.trans (if_pos c_5984)
      have gc_5984 := ti_le c_5984 kc_0 rfl
      refine lv_aload_n hx hb dX6_askLeaves_29 rfl (lv_at hl 2 rfl) ?_
      refine lv_iload_n hx hb dX6_askLeaves_30 rfl (lv_at hl 1 rfl) ?_
      refine lv_iload_n hx hb dX6_askLeaves_31 rfl (lv_at hl 0 rfl) ?_
      have hMs := ml_of hD [true, true, false, false, false, false, false, false, false, false, false, false, false] (wc := [(oc6 oK oR oC oS oT rK_images iK_imageCount oA oH oL x_5976 iK_latestFault iK_latestPlace), (oc1 oC iC_nodes iC_words iC_chances iC_unsures iC_slips iC_throneNode iC_saidWorth iC_unit rC_kind rC_parts rC_partNodes rC_weights rC_weightSums rC_toldWorths rC_steps rC_below rC_above rC_unsureWords rC_unsureWorths)]) rfl
      have hFc := va_freeM hD hS hA _ hMs
      refine va_calli (va_runV (As := [.int x_5982, .int x_5983]) (rest := []) ⟨hx, hb, hml, hown, hts⟩ (tX6_leftAtMost l dC dI _ oK oR oC oS oT rK_images iK_imageCount oA oH oL x_5976 iK_latestFault iK_latestPlace iC_nodes iC_words iC_chances iC_unsures iC_slips iC_throneNode iC_saidWorth iC_unit rC_kind rC_parts rC_partNodes rC_weights rC_weightSums rC_toldWorths rC_steps rC_below rC_above rC_unsureWords rC_unsureWorths x_5982 x_5983 b_iK_imageCount b_iC_nodes b_iC_unsures b_iC_throneNode) (cwV 2 hts (wd_V wd_1230 wd_1231 wd_1232 wd_2 (wd_c wd_1233)) rfl rfl rfl dv_yX6_leftAtMost_2 ⟨Nat.le_of_ble_eq_true rfl, Nat.le_of_ble_eq_true rfl⟩) ⟨Pw.fb, recvX6 hK hP (q0 := 0) rfl, fun U hU hW => Pw.to (hP.ms _ hMs) (hD.ms _ hMs) (hK.ms [false, false, false, false, false, false, false, false, false, false] rfl) hE hS hFc hU hW⟩ rfl rfl hl.1 rfl (lv_room (Nat.le_of_ble_eq_true rfl)) dX6_askLeaves_32 ⟨Nat.le_of_ble_eq_true rfl, Nat.le_of_ble_eq_true rfl⟩) hS (fun q _ h => hFc q h) hFc (fun r u t H locs ht hvm hw hB hz1 hk1 hS => ?_)
      have hru9 := hw.2
      have hw := hw.1
      obtain ⟨hP, hD⟩ := Bw.goN (ws' := [(oc6 oK oR oC oS oT rK_images iK_imageCount oA oH oL x_5976 iK_latestFault iK_latestPlace), (oc1 oC iC_nodes iC_words iC_chances iC_unsures iC_slips iC_throneNode iC_saidWorth iC_unit rC_kind rC_parts rC_partNodes rC_weights rC_weightSums rC_toldWorths rC_steps rC_below rC_above rC_unsureWords rC_unsureWorths), (arI rC_kind kC_kind 18 fC_kind), (arI rC_parts kC_parts 18 fC_parts), (arI rC_partNodes kC_partNodes 72 fC_partNodes), (arI rC_weights kC_weights 72 fC_weights), (arI rC_weightSums kC_weightSums 18 fC_weightSums), (arI rC_toldWorths kC_toldWorths 18 fC_toldWorths), (arI rC_unsureWords kC_unsureWords 4 fC_unsureWords), (arI rC_unsureWorths kC_unsureWorths 4 fC_unsureWorths), (oc4 oL rL_values rL_supposed), (arI rL_values kL_values 18 f_5980), (arI rL_supposed kL_supposed 18 f_5981)]) hB rfl ht hP hD _ hMs hk1 hFc rfl
      clear hz1 hk1 hvm ht hB hMs
      obtain ⟨x_5985, rfl⟩ : ∃ z, z = r := ⟨_, rfl⟩
      have hG := hG.trans (lt_eq hru9.symm)
      exact wq_i hx hb hr (cI x_5985) ⟨⟨trivial, trivial⟩, (cI_of x_5985)⟩ (fun t ht hW => ⟨x_5976, f_5980, f_5981, (cI_tup hG), Bw.to hP hD hK ht hW⟩) hS dX6_askLeaves_35 hlocks
    · skip
      have hG := hG.trans (if_neg c_5984)
      have gc_5984 := ti_nle c_5984 kc_0 rfl
      refine lv_bipush (v := (-2)) hx hb dX6_askLeaves_24 (by decide) ?_
      refine lv_goto (tgt := 35) hx hb dX6_askLeaves_26 (by decide) ?_
      exact wq_i hx hb hr (cI (-2)) ⟨⟨trivial, trivial⟩, (cI_of (-2))⟩ (fun t ht hW => ⟨x_5976, f_5980, f_5981, (cI_tup hG), Bw.to hP hD hK ht hW⟩) hS dX6_askLeaves_35 hlocks
  · skip
    have hG := hG.trans (un2_eq e_x_5976_0)
    have hG := hG.trans (if_neg (by decide))
    refine lv_if_eq (tgt := 9) hx hb dX6_askLeaves_4 (by decide) (fun c => absurd c (by decide)) (fun _ => ?_)
    refine lv_iconst (v := (-1)) hx hb dX6_askLeaves_7 (by decide) ?_
    exact wq_i hx hb hr (cI (-1)) ⟨⟨trivial, trivial⟩, (cI_of (-1))⟩ (fun t ht hW => ⟨x_5976, fL_values, fL_supposed, (cI_tup hG), Bw.to hP hD hK ht hW⟩) hS dX6_askLeaves_8 hlocks
set_option maxHeartbeats 4000000 in
set_option maxRecDepth 100000 in
theorem tX6_fitAt (l : Launch) (dC : Nat → ClassId) (dI : Nat → Nat → Nat) (sz : Nat) (oK : Nat) (oR : Nat) (oC : Nat) (oS : Nat) (oT : Nat) (rK_images : Nat) (iK_imageCount : Int32) (oA : Nat) (oH : Nat) (oL : Nat) (iK_refusal : Int32) (iK_latestFault : Int32) (iK_latestPlace : Int32) (iC_nodes : Int32) (iC_words : Int32) (iC_chances : Int32) (iC_unsures : Int32) (iC_slips : Int32) (iC_throneNode : Int32) (iC_saidWorth : Int32) (iC_unit : Int32) (rC_kind : Nat) (fC_kind : Nat → Int32) (kC_kind : ClassId) (rC_parts : Nat) (fC_parts : Nat → Int32) (kC_parts : ClassId) (rC_partNodes : Nat) (fC_partNodes : Nat → Int32) (kC_partNodes : ClassId) (rC_weights : Nat) (fC_weights : Nat → Int32) (kC_weights : ClassId) (rC_weightSums : Nat) (fC_weightSums : Nat → Int32) (kC_weightSums : ClassId) (rC_toldWorths : Nat) (fC_toldWorths : Nat → Int32) (kC_toldWorths : ClassId) (rC_steps : Nat) (rC_below : Nat) (rC_above : Nat) (rC_unsureWords : Nat) (fC_unsureWords : Nat → Int32) (kC_unsureWords : ClassId) (rC_unsureWorths : Nat) (fC_unsureWorths : Nat → Int32) (kC_unsureWorths : ClassId) (rL_values : Nat) (fL_values : Nat → Int32) (kL_values : ClassId) (rL_supposed : Nat) (fL_supposed : Nat → Int32) (kL_supposed : ClassId) (p0 : Int32) (b_iK_imageCount : 0 ≤ iK_imageCount.toInt ∧ iK_imageCount.toInt ≤ 3) (b_iC_nodes : 0 ≤ iC_nodes.toInt ∧ iC_nodes.toInt ≤ 18) (b_iC_unsures : 0 ≤ iC_unsures.toInt ∧ iC_unsures.toInt ≤ 4) (b_iC_throneNode : (-1) ≤ iC_throneNode.toInt ∧ iC_throneNode.toInt ≤ 17) (a_fC_parts : ∀ j : Nat, j < 18 → 0 ≤ (fC_parts j).toInt ∧ (fC_parts j).toInt ≤ 4) (a_fC_partNodes : ∀ j : Nat, j < 72 → 0 ≤ (fC_partNodes j).toInt ∧ (fC_partNodes j).toInt ≤ 17) (a_fC_unsureWords : ∀ j : Nat, j < 4 → 0 ≤ (fC_unsureWords j).toInt ∧ (fC_unsureWords j).toInt ≤ 17)  : Met l yX6_fitAt (Cond.code yX6_fitAt cX6_fitAt 5 (some .int) :: wG) ({ frames := 5, cells := 0, slots := 0, locals := 118 }) (va_Pc [.ref oK, .int p0] (Pw dC dI sz [(oc6 oK oR oC oS oT rK_images iK_imageCount oA oH oL iK_refusal iK_latestFault iK_latestPlace), (oc1 oC iC_nodes iC_words iC_chances iC_unsures iC_slips iC_throneNode iC_saidWorth iC_unit rC_kind rC_parts rC_partNodes rC_weights rC_weightSums rC_toldWorths rC_steps rC_below rC_above rC_unsureWords rC_unsureWorths), (arI rC_kind kC_kind 18 fC_kind), (arI rC_parts kC_parts 18 fC_parts), (arI rC_partNodes kC_partNodes 72 fC_partNodes), (arI rC_weights kC_weights 72 fC_weights), (arI rC_weightSums kC_weightSums 18 fC_weightSums), (arI rC_toldWorths kC_toldWorths 18 fC_toldWorths), (arI rC_unsureWords kC_unsureWords 4 fC_unsureWords), (arI rC_unsureWorths kC_unsureWorths 4 fC_unsureWorths), (oc4 oL rL_values rL_supposed), (arI rL_values kL_values 18 fL_values), (arI rL_supposed kL_supposed 18 fL_supposed)] [(kC_kind, .int), (kC_parts, .int), (kC_partNodes, .int), (kC_weights, .int), (kC_weightSums, .int), (kC_toldWorths, .int), (kC_unsureWords, .int), (kC_unsureWorths, .int), (kL_values, .int), (kL_supposed, .int)])) (va_Qi (fun (r : Int32) (u : Nat) => (True ∧ True) ∧ r = Int32.ofNat u) (fun (u : Nat) (t : State) => ∃ (niK_refusal : Int32) (nfL_values : Nat → Int32) (nfL_supposed : Nat → Int32), (PX6_fitAt iC_nodes iC_unsures iC_throneNode iC_saidWorth iC_unit fC_kind fC_parts fC_partNodes fC_weights fC_weightSums fC_toldWorths fC_unsureWords fC_unsureWorths fL_values fL_supposed p0 = (Int32.ofNat u, niK_refusal, nfL_values, nfL_supposed)) ∧ Bw dC dI (va_A [(oc6 oK oR oC oS oT rK_images iK_imageCount oA oH oL iK_refusal iK_latestFault iK_latestPlace), (oc1 oC iC_nodes iC_words iC_chances iC_unsures iC_slips iC_throneNode iC_saidWorth iC_unit rC_kind rC_parts rC_partNodes rC_weights rC_weightSums rC_toldWorths rC_steps rC_below rC_above rC_unsureWords rC_unsureWorths), (arI rC_kind kC_kind 18 fC_kind), (arI rC_parts kC_parts 18 fC_parts), (arI rC_partNodes kC_partNodes 72 fC_partNodes), (arI rC_weights kC_weights 72 fC_weights), (arI rC_weightSums kC_weightSums 18 fC_weightSums), (arI rC_toldWorths kC_toldWorths 18 fC_toldWorths), (arI rC_unsureWords kC_unsureWords 4 fC_unsureWords), (arI rC_unsureWorths kC_unsureWorths 4 fC_unsureWorths), (oc4 oL rL_values rL_supposed), (arI rL_values kL_values 18 fL_values), (arI rL_supposed kL_supposed 18 fL_supposed)] sz) [(oc6 oK oR oC oS oT rK_images iK_imageCount oA oH oL niK_refusal iK_latestFault iK_latestPlace), (oc1 oC iC_nodes iC_words iC_chances iC_unsures iC_slips iC_throneNode iC_saidWorth iC_unit rC_kind rC_parts rC_partNodes rC_weights rC_weightSums rC_toldWorths rC_steps rC_below rC_above rC_unsureWords rC_unsureWorths), (arI rC_kind kC_kind 18 fC_kind), (arI rC_parts kC_parts 18 fC_parts), (arI rC_partNodes kC_partNodes 72 fC_partNodes), (arI rC_weights kC_weights 72 fC_weights), (arI rC_weightSums kC_weightSums 18 fC_weightSums), (arI rC_toldWorths kC_toldWorths 18 fC_toldWorths), (arI rC_unsureWords kC_unsureWords 4 fC_unsureWords), (arI rC_unsureWorths kC_unsureWorths 4 fC_unsureWorths), (oc4 oL rL_values rL_supposed), (arI rL_values kL_values 18 nfL_values), (arI rL_supposed kL_supposed 18 nfL_supposed)] [(kC_kind, .int), (kC_parts, .int), (kC_partNodes, .int), (kC_weights, .int), (kC_weightSums, .int), (kC_toldWorths, .int), (kC_unsureWords, .int), (kC_unsureWorths, .int), (kL_values, .int), (kL_supposed, .int)] t) (va_A [(oc6 oK oR oC oS oT rK_images iK_imageCount oA oH oL iK_refusal iK_latestFault iK_latestPlace), (oc1 oC iC_nodes iC_words iC_chances iC_unsures iC_slips iC_throneNode iC_saidWorth iC_unit rC_kind rC_parts rC_partNodes rC_weights rC_weightSums rC_toldWorths rC_steps rC_below rC_above rC_unsureWords rC_unsureWorths), (arI rC_kind kC_kind 18 fC_kind), (arI rC_parts kC_parts 18 fC_parts), (arI rC_partNodes kC_partNodes 72 fC_partNodes), (arI rC_weights kC_weights 72 fC_weights), (arI rC_weightSums kC_weightSums 18 fC_weightSums), (arI rC_toldWorths kC_toldWorths 18 fC_toldWorths), (arI rC_unsureWords kC_unsureWords 4 fC_unsureWords), (arI rC_unsureWorths kC_unsureWorths 4 fC_unsureWorths), (oc4 oL rL_values rL_supposed), (arI rL_values kL_values 18 fL_values), (arI rL_supposed kL_supposed 18 fL_supposed)] sz)) 0 0 (va_A [(oc6 oK oR oC oS oT rK_images iK_imageCount oA oH oL iK_refusal iK_latestFault iK_latestPlace), (oc1 oC iC_nodes iC_words iC_chances iC_unsures iC_slips iC_throneNode iC_saidWorth iC_unit rC_kind rC_parts rC_partNodes rC_weights rC_weightSums rC_toldWorths rC_steps rC_below rC_above rC_unsureWords rC_unsureWorths), (arI rC_kind kC_kind 18 fC_kind), (arI rC_parts kC_parts 18 fC_parts), (arI rC_partNodes kC_partNodes 72 fC_partNodes), (arI rC_weights kC_weights 72 fC_weights), (arI rC_weightSums kC_weightSums 18 fC_weightSums), (arI rC_toldWorths kC_toldWorths 18 fC_toldWorths), (arI rC_unsureWords kC_unsureWords 4 fC_unsureWords), (arI rC_unsureWorths kC_unsureWorths 4 fC_unsureWorths), (oc4 oL rL_values rL_supposed), (arI rL_values kL_values 18 fL_values), (arI rL_supposed kL_supposed 18 fL_supposed)] sz) := by
  refine Met.ofW (cc := cX6_fitAt) (maxL := 5) (ret := (some .int)) pnX6 rfl ?_
  intro p e s m args below meth c s₁ B hml hv
  obtain ⟨rfl, hsz, hP, hK, hD0, hE⟩ := hv
  have hx := B.exec
  have hb := B.bytes
  have hr := B.returns
  have hts : ∀ w ∈ wG, w.before ([.ref oK, .int p0] : List Value).toArray s = true := fun w h => atoms_spec (ws := Cond.code yX6_fitAt cX6_fitAt 5 (some .int) :: wG) B.pre w (List.mem_cons_of_mem _ h)
  have hown : s.vm.findClass RX6 = some m.cls := own_of B.named rfl
  have hlocks := B.notSynchronized
  subst hsz
  have hD := hD0.self (sz := s.heap.size)
  generalize hAe : va_A [(oc6 oK oR oC oS oT rK_images iK_imageCount oA oH oL iK_refusal iK_latestFault iK_latestPlace), (oc1 oC iC_nodes iC_words iC_chances iC_unsures iC_slips iC_throneNode iC_saidWorth iC_unit rC_kind rC_parts rC_partNodes rC_weights rC_weightSums rC_toldWorths rC_steps rC_below rC_above rC_unsureWords rC_unsureWorths), (arI rC_kind kC_kind 18 fC_kind), (arI rC_parts kC_parts 18 fC_parts), (arI rC_partNodes kC_partNodes 72 fC_partNodes), (arI rC_weights kC_weights 72 fC_weights), (arI rC_weightSums kC_weightSums 18 fC_weightSums), (arI rC_toldWorths kC_toldWorths 18 fC_toldWorths), (arI rC_unsureWords kC_unsureWords 4 fC_unsureWords), (arI rC_unsureWorths kC_unsureWorths 4 fC_unsureWorths), (oc4 oL rL_values rL_supposed), (arI rL_values kL_values 18 fL_values), (arI rL_supposed kL_supposed 18 fL_supposed)] s.heap.size = A at hD hE ⊢
  have hA : ∀ q : Nat, s.heap.size ≤ q → A q := fun q h => by rw [← hAe]; exact Or.inr h
  have hS : va_S A s.heap s.heap [] := va_S.rf
  have hl := lv_entry ([.ref oK, .int p0]) (n := 5) (Nat.le_of_ble_eq_true rfl)
  rw [lg_entry_eq]
  generalize (lg_sl ([.ref oK, .int p0]) ++ List.replicate (5 - (lg_sl ([.ref oK, .int p0])).length) Slot.unset).toArray = ls at hl ⊢
  have hl : lv_has ls 5 [(0, .ref oK), (1, .int p0)] := hl
  have hG := PX6_fitAt_eq iC_nodes iC_unsures iC_throneNode iC_saidWorth iC_unit fC_kind fC_parts fC_partNodes fC_weights fC_weightSums fC_toldWorths fC_unsureWords fC_unsureWorths fL_values fL_supposed p0
  have rg_p0 := fb_rng p0
  refine lv_aload_n hx hb dX6_fitAt_0 rfl (lv_at hl 0 rfl) ?_
  have hMs := ml_of hD [true, true, false, false, false, false, false, false, false, false, false, false, false] (wc := [(oc6 oK oR oC oS oT rK_images iK_imageCount oA oH oL iK_refusal iK_latestFault iK_latestPlace), (oc1 oC iC_nodes iC_words iC_chances iC_unsures iC_slips iC_throneNode iC_saidWorth iC_unit rC_kind rC_parts rC_partNodes rC_weights rC_weightSums rC_toldWorths rC_steps rC_below rC_above rC_unsureWords rC_unsureWorths)]) rfl
  have hFc := va_freeM hD hS hA _ hMs
  refine va_calli (va_runV (As := []) (rest := []) ⟨hx, hb, hml, hown, hts⟩ (tX6_lacksCourt l dC dI _ oK oR oC oS oT rK_images iK_imageCount oA oH oL iK_refusal iK_latestFault iK_latestPlace iC_nodes iC_words iC_chances iC_unsures iC_slips iC_throneNode iC_saidWorth iC_unit rC_kind rC_parts rC_partNodes rC_weights rC_weightSums rC_toldWorths rC_steps rC_below rC_above rC_unsureWords rC_unsureWorths b_iK_imageCount b_iC_nodes b_iC_unsures b_iC_throneNode) (cwV 0 hts (wd_V wd_596 wd_597 wd_598 wd_2 (wd_c wd_599)) rfl rfl rfl dv_yX6_lacksCourt_0 ⟨Nat.le_of_ble_eq_true rfl, Nat.le_of_ble_eq_true rfl⟩) ⟨Pw.fb, recvX6 hK hP (q0 := 0) rfl, fun U hU hW => Pw.to (hP.ms _ hMs) (hD.ms _ hMs) (hK.ms [false, false, false, false, false, false, false, false, false, false] rfl) hE hS hFc hU hW⟩ rfl rfl hl.1 rfl (lv_room (Nat.le_of_ble_eq_true rfl)) dX6_fitAt_1 ⟨Nat.le_of_ble_eq_true rfl, Nat.le_of_ble_eq_true rfl⟩) hS (fun q _ h => hFc q h) hFc (fun r u t H locs ht hvm hw hB hz1 hk1 hS => ?_)
  have hru9 := hw.2
  have hw := hw.1
  refine ex_1_2 hB (fun x_6027 b_x_6027 e_x_6027_0 hB => ?_)
  obtain ⟨hP, hD⟩ := Bw.goN (ws' := [(oc6 oK oR oC oS oT rK_images iK_imageCount oA oH oL x_6027 iK_latestFault iK_latestPlace), (oc1 oC iC_nodes iC_words iC_chances iC_unsures iC_slips iC_throneNode iC_saidWorth iC_unit rC_kind rC_parts rC_partNodes rC_weights rC_weightSums rC_toldWorths rC_steps rC_below rC_above rC_unsureWords rC_unsureWorths), (arI rC_kind kC_kind 18 fC_kind), (arI rC_parts kC_parts 18 fC_parts), (arI rC_partNodes kC_partNodes 72 fC_partNodes), (arI rC_weights kC_weights 72 fC_weights), (arI rC_weightSums kC_weightSums 18 fC_weightSums), (arI rC_toldWorths kC_toldWorths 18 fC_toldWorths), (arI rC_unsureWords kC_unsureWords 4 fC_unsureWords), (arI rC_unsureWorths kC_unsureWorths 4 fC_unsureWorths), (oc4 oL rL_values rL_supposed), (arI rL_values kL_values 18 fL_values), (arI rL_supposed kL_supposed 18 fL_supposed)]) hB rfl ht hP hD _ hMs hk1 hFc rfl
  clear hz1 hk1 hvm ht hB hMs
  have rg_x_6027 := fb_rng x_6027
  rw [← hru9] at e_x_6027_0
  rcases hw.2 with ⟨rfl, hc_6028⟩ | ⟨rfl, hc_6028⟩
  · skip
    have rg_iC_nodes := fb_rng iC_nodes
    have hG := hG.trans (un2_eq e_x_6027_0)
    have hG := hG.trans (if_pos rfl)
    refine lv_if_eq (tgt := 9) hx hb dX6_fitAt_4 (by decide) (fun _ => ?_) (fun c => absurd c (by decide))
    refine lv_aload_n hx hb dX6_fitAt_9 rfl (lv_at hl 0 rfl) ?_
    have hFc := va_freeI hD hS hA
    refine va_calli (va_runV (As := []) (rest := []) ⟨hx, hb, hml, hown, hts⟩ (tX6_fittingSets l dC dI _ oK oR oC oS oT rK_images iK_imageCount oA oH oL x_6027 iK_latestFault iK_latestPlace iC_nodes iC_words iC_chances iC_unsures iC_slips iC_throneNode iC_saidWorth iC_unit rC_kind fC_kind kC_kind rC_parts fC_parts kC_parts rC_partNodes fC_partNodes kC_partNodes rC_weights fC_weights kC_weights rC_weightSums fC_weightSums kC_weightSums rC_toldWorths fC_toldWorths kC_toldWorths rC_steps rC_below rC_above rC_unsureWords fC_unsureWords kC_unsureWords rC_unsureWorths fC_unsureWorths kC_unsureWorths rL_values fL_values kL_values rL_supposed fL_supposed kL_supposed b_iK_imageCount b_iC_nodes b_iC_unsures b_iC_throneNode a_fC_parts a_fC_partNodes a_fC_unsureWords) (cwV 0 hts (wd_V wd_1159 wd_1160 wd_1161 wd_2 (wd_c wd_1162)) rfl rfl rfl dv_yX6_fittingSets_0 ⟨Nat.le_of_ble_eq_true rfl, Nat.le_of_ble_eq_true rfl⟩) ⟨Pw.fb, recvX6 hK hP (q0 := 0) rfl, fun U hU hW => Pw.to hP hD hK hE hS hFc hU hW⟩ rfl rfl hl.1 rfl (lv_room (Nat.le_of_ble_eq_true rfl)) dX6_fitAt_10 ⟨Nat.le_of_ble_eq_true rfl, Nat.le_of_ble_eq_true rfl⟩) hS (fun q _ h => hFc q h) hFc (fun r u t H locs ht hvm hw hB hz1 hk1 hS => ?_)
    have hru9 := hw.2
    have hw := hw.1
    refine ex_2_1 hB (fun f_6031 f_6032 e_f_6031_0 hB => ?_)
    obtain ⟨hP, hD⟩ := Bw.goA (ws' := [(oc6 oK oR oC oS oT rK_images iK_imageCount oA oH oL x_6027 iK_latestFault iK_latestPlace), (oc1 oC iC_nodes iC_words iC_chances iC_unsures iC_slips iC_throneNode iC_saidWorth iC_unit rC_kind rC_parts rC_partNodes rC_weights rC_weightSums rC_toldWorths rC_steps rC_below rC_above rC_unsureWords rC_unsureWorths), (arI rC_kind kC_kind 18 fC_kind), (arI rC_parts kC_parts 18 fC_parts), (arI rC_partNodes kC_partNodes 72 fC_partNodes), (arI rC_weights kC_weights 72 fC_weights), (arI rC_weightSums kC_weightSums 18 fC_weightSums), (arI rC_toldWorths kC_toldWorths 18 fC_toldWorths), (arI rC_unsureWords kC_unsureWords 4 fC_unsureWords), (arI rC_unsureWorths kC_unsureWorths 4 fC_unsureWorths), (oc4 oL rL_values rL_supposed), (arI rL_values kL_values 18 f_6031), (arI rL_supposed kL_supposed 18 f_6032)]) hB rfl ht hFc rfl
    clear hz1 hk1 hvm ht hB
    rw [← hru9] at e_f_6031_0
    obtain ⟨x_6033, rfl⟩ : ∃ z, z = r := ⟨_, rfl⟩
    have hG := hG.trans (un3_eq e_f_6031_0)
    have rg_x_6033 := fb_rng x_6033
    refine lv_istore_n (lv' := [(2, .int x_6033), (0, .ref oK), (1, .int p0)]) hx hb dX6_fitAt_13 rfl hl (by decide) rfl (fun ls hl => ?_)
    refine lv_iconst (v := 0) hx hb dX6_fitAt_14 (by decide) ?_
    refine lv_istore_n (lv' := [(3, .int 0), (2, .int x_6033), (0, .ref oK), (1, .int p0)]) hx hb dX6_fitAt_15 rfl hl (by decide) rfl (fun ls hl => ?_)
    refine lv_iconst (v := 0) hx hb dX6_fitAt_16 (by decide) ?_
    refine lv_istore (lv' := [(4, .int 0), (3, .int 0), (2, .int x_6033), (0, .ref oK), (1, .int p0)]) hx hb dX6_fitAt_17 hl (by decide) rfl (fun ls hl => ?_)
    have hl := lv_sub hl (l' := [(4, .int 0), (3, .int 0), (2, .int x_6033), (0, .ref oK), (1, .int p0)]) [0, 1, 2, 3, 4] rfl
    have key_n_6036 : ∀ (n_6036 : Nat) (z_6034 : Int32) (z_6035 : Int32) (H : Heap) (locs : List Loc) (ls : Array Slot), (0 ≤ z_6034.toInt ∧ z_6034.toInt ≤ 2147483647) → (2147483647 - z_6034.toInt).toNat < n_6036 → (PX6_fitAt iC_nodes iC_unsures iC_throneNode iC_saidWorth iC_unit fC_kind fC_parts fC_partNodes fC_weights fC_weightSums fC_toldWorths fC_unsureWords fC_unsureWorths fL_values fL_supposed p0 = HX6_fitAt_0 iC_unsures p0 x_6027 f_6031 f_6032 x_6033 n_6036 z_6034 z_6035) → va_P (dC, dI) vwCl [(oc6 oK oR oC oS oT rK_images iK_imageCount oA oH oL x_6027 iK_latestFault iK_latestPlace), (oc1 oC iC_nodes iC_words iC_chances iC_unsures iC_slips iC_throneNode iC_saidWorth iC_unit rC_kind rC_parts rC_partNodes rC_weights rC_weightSums rC_toldWorths rC_steps rC_below rC_above rC_unsureWords rC_unsureWorths), (arI rC_kind kC_kind 18 fC_kind), (arI rC_parts kC_parts 18 fC_parts), (arI rC_partNodes kC_partNodes 72 fC_partNodes), (arI rC_weights kC_weights 72 fC_weights), (arI rC_weightSums kC_weightSums 18 fC_weightSums), (arI rC_toldWorths kC_toldWorths 18 fC_toldWorths), (arI rC_unsureWords kC_unsureWords 4 fC_unsureWords), (arI rC_unsureWorths kC_unsureWorths 4 fC_unsureWorths), (oc4 oL rL_values rL_supposed), (arI rL_values kL_values 18 f_6031), (arI rL_supposed kL_supposed 18 f_6032)] H → va_D A [(oc6 oK oR oC oS oT rK_images iK_imageCount oA oH oL x_6027 iK_latestFault iK_latestPlace), (oc1 oC iC_nodes iC_words iC_chances iC_unsures iC_slips iC_throneNode iC_saidWorth iC_unit rC_kind rC_parts rC_partNodes rC_weights rC_weightSums rC_toldWorths rC_steps rC_below rC_above rC_unsureWords rC_unsureWorths), (arI rC_kind kC_kind 18 fC_kind), (arI rC_parts kC_parts 18 fC_parts), (arI rC_partNodes kC_partNodes 72 fC_partNodes), (arI rC_weights kC_weights 72 fC_weights), (arI rC_weightSums kC_weightSums 18 fC_weightSums), (arI rC_toldWorths kC_toldWorths 18 fC_toldWorths), (arI rC_unsureWords kC_unsureWords 4 fC_unsureWords), (arI rC_unsureWorths kC_unsureWorths 4 fC_unsureWorths), (oc4 oL rL_values rL_supposed), (arI rL_values kL_values 18 f_6031), (arI rL_supposed kL_supposed 18 f_6032)] → va_S A s.heap H locs → lv_has ls 5 [(4, .int z_6034), (3, .int z_6035), (2, .int x_6033), (0, .ref oK), (1, .int p0)] → W p l e (headSpec (Cond.code yX6_fitAt cX6_fitAt 5 (some .int) :: wG) ({ frames := 5, cells := 0, slots := 0, locals := 118 })).room s m ([.ref oK, .int p0] : List Value).toArray below meth c H locs 0 0 (MQ below (va_Qi (fun (r : Int32) (u : Nat) => (True ∧ True) ∧ r = Int32.ofNat u) (fun (u : Nat) (t : State) => ∃ (niK_refusal : Int32) (nfL_values : Nat → Int32) (nfL_supposed : Nat → Int32), (PX6_fitAt iC_nodes iC_unsures iC_throneNode iC_saidWorth iC_unit fC_kind fC_parts fC_partNodes fC_weights fC_weightSums fC_toldWorths fC_unsureWords fC_unsureWorths fL_values fL_supposed p0 = (Int32.ofNat u, niK_refusal, nfL_values, nfL_supposed)) ∧ Bw dC dI A [(oc6 oK oR oC oS oT rK_images iK_imageCount oA oH oL niK_refusal iK_latestFault iK_latestPlace), (oc1 oC iC_nodes iC_words iC_chances iC_unsures iC_slips iC_throneNode iC_saidWorth iC_unit rC_kind rC_parts rC_partNodes rC_weights rC_weightSums rC_toldWorths rC_steps rC_below rC_above rC_unsureWords rC_unsureWorths), (arI rC_kind kC_kind 18 fC_kind), (arI rC_parts kC_parts 18 fC_parts), (arI rC_partNodes kC_partNodes 72 fC_partNodes), (arI rC_weights kC_weights 72 fC_weights), (arI rC_weightSums kC_weightSums 18 fC_weightSums), (arI rC_toldWorths kC_toldWorths 18 fC_toldWorths), (arI rC_unsureWords kC_unsureWords 4 fC_unsureWords), (arI rC_unsureWorths kC_unsureWorths 4 fC_unsureWorths), (oc4 oL rL_values rL_supposed), (arI rL_values kL_values 18 nfL_values), (arI rL_supposed kL_supposed 18 nfL_supposed)] [(kC_kind, .int), (kC_parts, .int), (kC_partNodes, .int), (kC_weights, .int), (kC_weightSums, .int), (kC_toldWorths, .int), (kC_unsureWords, .int), (kC_unsureWorths, .int), (kL_values, .int), (kL_supposed, .int)] t) A) ([.ref oK, .int p0] : List Value).toArray s 0 0 A) (F0 m 19 ls []) := by
      intro n_6036
      induction n_6036 with
      | zero => intro z_6034 z_6035 H locs ls hi0_n_6036 hm; exact absurd hm (Nat.not_lt_zero _)
      | succ n_6036 ih_n_6036 =>
        intro z_6034 z_6035 H locs ls hi0_n_6036 hm_n_6036 hG hP hD hS hl
        have hG := hG.trans (HX6_fitAt_0_eq _ _ _ _ _ _ _ _ _)
        have rg_z_6034 := fb_rng z_6034
        have rg_z_6035 := fb_rng z_6035
        refine lv_iload hx hb dX6_fitAt_19 (lv_at hl 0 rfl) ?_
        refine lv_aload_n hx hb dX6_fitAt_21 rfl (lv_at hl 3 rfl) ?_
        refine va_get (D := (dC, dI)) (ci := 6) (v := .ref oC) (C := RX6) (T := TX6) (N := 12) hx hb hts inX6 hown hK hP 0 rfl rfl 1 (by decide) (hts _ wd_20) (fun _ h9 => h9) rfl dX6_fitAt_22 ?_
        have hMs := ml_of hD [false, true, false, false, false, false, false, false, false, false, false, false, false] (wc := [(oc1 oC iC_nodes iC_words iC_chances iC_unsures iC_slips iC_throneNode iC_saidWorth iC_unit rC_kind rC_parts rC_partNodes rC_weights rC_weightSums rC_toldWorths rC_steps rC_below rC_above rC_unsureWords rC_unsureWorths)]) rfl
        have hFc := va_freeM hD hS hA _ hMs
        refine va_calli (va_runV (As := []) (rest := [.int z_6034]) ⟨hx, hb, hml, hown, hts⟩ (tX1_unsureSets l dC dI _ oC iC_nodes iC_words iC_chances iC_unsures iC_slips iC_throneNode iC_saidWorth iC_unit rC_kind rC_parts rC_partNodes rC_weights rC_weightSums rC_toldWorths rC_steps rC_below rC_above rC_unsureWords rC_unsureWorths b_iC_nodes b_iC_unsures b_iC_throneNode) (cwV 0 hts (wd_V wd_1165 wd_1166 wd_1167 wd_19 (wd_c wd_1168)) rfl rfl rfl dv_yX1_unsureSets_0 ⟨Nat.le_of_ble_eq_true rfl, Nat.le_of_ble_eq_true rfl⟩) ⟨Pw.fb, recvX1 hK hP (q0 := 1) rfl, fun U hU hW => Pw.to (hP.ms _ hMs) (hD.ms _ hMs) (hK.ms [false, false, false, false, false, false, false, false, false, false] rfl) hE hS hFc hU hW⟩ rfl rfl hl.1 rfl (lv_room (Nat.le_of_ble_eq_true rfl)) dX6_fitAt_25 ⟨Nat.le_of_ble_eq_true rfl, Nat.le_of_ble_eq_true rfl⟩) hS (fun q _ h => hFc q h) hFc (fun r u t H locs ht hvm hw hB hz1 hk1 hS => ?_)
        have hru9 := hw.2
        have hw := hw.1
        obtain ⟨hP, hD⟩ := Bw.goN (ws' := [(oc6 oK oR oC oS oT rK_images iK_imageCount oA oH oL x_6027 iK_latestFault iK_latestPlace), (oc1 oC iC_nodes iC_words iC_chances iC_unsures iC_slips iC_throneNode iC_saidWorth iC_unit rC_kind rC_parts rC_partNodes rC_weights rC_weightSums rC_toldWorths rC_steps rC_below rC_above rC_unsureWords rC_unsureWorths), (arI rC_kind kC_kind 18 fC_kind), (arI rC_parts kC_parts 18 fC_parts), (arI rC_partNodes kC_partNodes 72 fC_partNodes), (arI rC_weights kC_weights 72 fC_weights), (arI rC_weightSums kC_weightSums 18 fC_weightSums), (arI rC_toldWorths kC_toldWorths 18 fC_toldWorths), (arI rC_unsureWords kC_unsureWords 4 fC_unsureWords), (arI rC_unsureWorths kC_unsureWorths 4 fC_unsureWorths), (oc4 oL rL_values rL_supposed), (arI rL_values kL_values 18 f_6031), (arI rL_supposed kL_supposed 18 f_6032)]) hB rfl ht hP hD _ hMs hk1 hFc rfl
        clear hz1 hk1 hvm ht hB hMs
        obtain ⟨x_6037, rfl⟩ : ∃ z, z = r := ⟨_, rfl⟩
        have hG := hG.trans (lt_eq hru9.symm)
        have rg_x_6037 := fb_rng x_6037
        have ux_6037 := hw.2
        refine lv_icmp_ge (tgt := 58) hx hb dX6_fitAt_28 (by decide) (fun c_6038 => ?_) (fun c_6038 => ?_)
        · skip
          have hG := hG.trans (if_pos c_6038)
          have gc_6038 := ti_le c_6038 rfl rfl
          refine lv_aload_n hx hb dX6_fitAt_58 rfl (lv_at hl 3 rfl) ?_
          refine lv_iconst (v := 1) hx hb dX6_fitAt_59 (by decide) ?_
          have hMs := ml_of hD [true, false, false, false, false, false, false, false, false, false, false, false, false] (wc := [(oc6 oK oR oC oS oT rK_images iK_imageCount oA oH oL x_6027 iK_latestFault iK_latestPlace)]) rfl
          have hFc := va_freeM hD hS hA _ hMs
          refine va_calli (va_runV (As := [.int 1]) (rest := []) ⟨hx, hb, hml, hown, hts⟩ (tX6_refuse l dC dI _ oK oR oC oS oT rK_images iK_imageCount oA oH oL x_6027 iK_latestFault iK_latestPlace 1 b_iK_imageCount) (cwV 1 hts (wd_V wd_197 wd_198 wd_199 wd_2 (wd_c wd_200)) rfl rfl rfl dv_yX6_refuse_1 ⟨Nat.le_of_ble_eq_true rfl, Nat.le_of_ble_eq_true rfl⟩) ⟨Pw.fb, recvX6 hK hP (q0 := 0) rfl, fun U hU hW => Pw.to (hP.ms _ hMs) (hD.ms _ hMs) (hK.ms [false, false, false, false, false, false, false, false, false, false] rfl) hE hS hFc hU hW⟩ rfl rfl hl.1 rfl (lv_room (Nat.le_of_ble_eq_true rfl)) dX6_fitAt_60 ⟨Nat.le_of_ble_eq_true rfl, Nat.le_of_ble_eq_true rfl⟩) hS (fun q _ h => hFc q h) hFc (fun r u t H locs ht hvm hw hB hz1 hk1 hS => ?_)
          have hru9 := hw.2
          have hw := hw.1
          refine ex_1_1 hB (fun x_6039 e_x_6039_0 hB => ?_)
          obtain ⟨hP, hD⟩ := Bw.goN (ws' := [(oc6 oK oR oC oS oT rK_images iK_imageCount oA oH oL x_6039 iK_latestFault iK_latestPlace), (oc1 oC iC_nodes iC_words iC_chances iC_unsures iC_slips iC_throneNode iC_saidWorth iC_unit rC_kind rC_parts rC_partNodes rC_weights rC_weightSums rC_toldWorths rC_steps rC_below rC_above rC_unsureWords rC_unsureWorths), (arI rC_kind kC_kind 18 fC_kind), (arI rC_parts kC_parts 18 fC_parts), (arI rC_partNodes kC_partNodes 72 fC_partNodes), (arI rC_weights kC_weights 72 fC_weights), (arI rC_weightSums kC_weightSums 18 fC_weightSums), (arI rC_toldWorths kC_toldWorths 18 fC_toldWorths), (arI rC_unsureWords kC_unsureWords 4 fC_unsureWords), (arI rC_unsureWorths kC_unsureWorths 4 fC_unsureWorths), (oc4 oL rL_values rL_supposed), (arI rL_values kL_values 18 f_6031), (arI rL_supposed kL_supposed 18 f_6032)]) hB rfl ht hP hD _ hMs hk1 hFc rfl
          clear hz1 hk1 hvm ht hB hMs
          have rg_x_6039 := fb_rng x_6039
          rw [← hru9] at e_x_6039_0
          obtain ⟨x_6040, rfl⟩ : ∃ z, z = r := ⟨_, rfl⟩
          have hG := hG.trans (un2_eq e_x_6039_0)
          have rg_x_6040 := fb_rng x_6040
          have ux_6040 := hw.2
          exact wq_i hx hb hr (cI x_6040) ⟨⟨trivial, trivial⟩, (cI_of x_6040)⟩ (fun t ht hW => ⟨x_6039, f_6031, f_6032, (cI_tup hG), Bw.to hP hD hK ht hW⟩) hS dX6_fitAt_63 hlocks
        · skip
          have hG := hG.trans (if_neg c_6038)
          have gc_6038 := ti_nle c_6038 rfl rfl
          refine lv_iload_n hx hb dX6_fitAt_31 rfl (lv_at hl 2 rfl) ?_
          refine lv_iload hx hb dX6_fitAt_32 (lv_at hl 0 rfl) ?_
          refine lv_ishr hx hb dX6_fitAt_34 ?_
          refine lv_topi (fun x_6041 ex_6041 => ?_)
          have hG := hG.trans (lt_eq ex_6041)
          have rg_x_6041 := fb_rng x_6041
          refine lv_iconst (v := 1) hx hb dX6_fitAt_35 (by decide) ?_
          refine lv_iand hx hb dX6_fitAt_36 ?_
          refine lv_topi (fun x_6042 ex_6042 => ?_)
          have hG := hG.trans (lt_eq ex_6042)
          have rg_x_6042 := fb_rng x_6042
          refine lv_iconst (v := 1) hx hb dX6_fitAt_37 (by decide) ?_
          refine lv_icmp_ne (tgt := 52) hx hb dX6_fitAt_38 (by decide) (fun c_6043 => ?_) (fun c_6043 => ?_)
          · skip
            have hG := hG.trans (if_neg c_6043)
            have gc_6043 := ti_ne c_6043 rfl kc_1
            obtain ⟨x_6044, ex_6044⟩ : ∃ z : Int32, z = z_6034 + Int32.ofInt 1 := ⟨_, rfl⟩
            have hG := hG.trans (lt_eq ex_6044)
            have vx_6044 : x_6044.toInt = z_6034.toInt + 1 := ti_add (y := 1) ex_6044 rfl kc_1 (om_4e4fce7e hi0_n_6036.1) (om_26fca3fc ux_6037.2 gc_6038)
            refine lv_iinc (v := x_6044) (lv' := [(4, .int x_6044), (3, .int z_6035), (2, .int x_6033), (0, .ref oK), (1, .int p0)]) hx hb dX6_fitAt_52 hl (k := 0) rfl ex_6044.symm (by decide) rfl (fun ls hl => ?_)
            refine lv_goto (tgt := 19) hx hb dX6_fitAt_55 (by decide) ?_
            exact ih_n_6036 x_6044 z_6035 _ _ _  ⟨(om_83b90de5 hi0_n_6036.1 vx_6044), (om_4b156bce ux_6037.2 gc_6038 vx_6044)⟩ (ms_lt hm_n_6036 (om_b9393183 vx_6044) (om_33376cd8 ux_6037.2 gc_6038)) hG hP hD hS (lv_sub hl [0, 1, 2, 3, 4] rfl)
          · skip
            have hG := hG.trans (if_pos c_6043)
            have gc_6043 := ti_eq c_6043 rfl kc_1
            refine lv_iload_n hx hb dX6_fitAt_41 rfl (lv_at hl 1 rfl) ?_
            refine lv_iload_n hx hb dX6_fitAt_42 rfl (lv_at hl 4 rfl) ?_
            refine lv_icmp_ne (tgt := 49) hx hb dX6_fitAt_43 (by decide) (fun c_6045 => ?_) (fun c_6045 => ?_)
            · skip
              have hG := hG.trans (if_neg c_6045)
              have gc_6045 := ti_ne c_6045 rfl rfl
              obtain ⟨x_6046, ex_6046⟩ : ∃ z : Int32, z = z_6035 + Int32.ofInt 1 := ⟨_, rfl⟩
              have hG := hG.trans (lt_eq ex_6046)
              have rg_x_6046 := fb_rng x_6046
              refine lv_iinc (v := x_6046) (lv' := [(3, .int x_6046), (4, .int z_6034), (2, .int x_6033), (0, .ref oK), (1, .int p0)]) hx hb dX6_fitAt_49 hl (k := 1) rfl ex_6046.symm (by decide) rfl (fun ls hl => ?_)
              obtain ⟨x_6047, ex_6047⟩ : ∃ z : Int32, z = z_6034 + Int32.ofInt 1 := ⟨_, rfl⟩
              have hG := hG.trans (lt_eq ex_6047)
              have vx_6047 : x_6047.toInt = z_6034.toInt + 1 := ti_add (y := 1) ex_6047 rfl kc_1 (om_4e4fce7e hi0_n_6036.1) (om_26fca3fc ux_6037.2 gc_6038)
              refine lv_iinc (v := x_6047) (lv' := [(4, .int x_6047), (3, .int x_6046), (2, .int x_6033), (0, .ref oK), (1, .int p0)]) hx hb dX6_fitAt_52 hl (k := 1) rfl ex_6047.symm (by decide) rfl (fun ls hl => ?_)
              refine lv_goto (tgt := 19) hx hb dX6_fitAt_55 (by decide) ?_
              exact ih_n_6036 x_6047 x_6046 _ _ _  ⟨(om_83b90de5 hi0_n_6036.1 vx_6047), (om_4b156bce ux_6037.2 gc_6038 vx_6047)⟩ (ms_lt hm_n_6036 (om_b9393183 vx_6047) (om_33376cd8 ux_6037.2 gc_6038)) hG hP hD hS (lv_sub hl [0, 1, 2, 3, 4] rfl)
            · skip
              have hG := hG.trans (if_pos c_6045)
              have gc_6045 := ti_eq c_6045 rfl rfl
              refine lv_iload hx hb dX6_fitAt_46 (lv_at hl 0 rfl) ?_
              exact wq_i hx hb hr (cI z_6034) ⟨⟨trivial, trivial⟩, (cI_of z_6034)⟩ (fun t ht hW => ⟨x_6027, f_6031, f_6032, (cI_tup hG), Bw.to hP hD hK ht hW⟩) hS dX6_fitAt_48 hlocks
    exact key_n_6036 (((2147483647 - (0 : Int32).toInt).toNat) + 1) 0 0 _ _ _  ⟨(om_b1de7dbe kc_0), (om_daf17c64 kc_0)⟩ (Nat.lt_add_one _) hG hP hD hS hl
  · skip
    have hG := hG.trans (un2_eq e_x_6027_0)
    have hG := hG.trans (if_neg (by decide))
    refine lv_if_eq (tgt := 9) hx hb dX6_fitAt_4 (by decide) (fun c => absurd c (by decide)) (fun _ => ?_)
    refine lv_iconst (v := (-1)) hx hb dX6_fitAt_7 (by decide) ?_
    exact wq_i hx hb hr (cI (-1)) ⟨⟨trivial, trivial⟩, (cI_of (-1))⟩ (fun t ht hW => ⟨x_6027, fL_values, fL_supposed, (cI_tup hG), Bw.to hP hD hK ht hW⟩) hS dX6_fitAt_8 hlocks
set_option maxHeartbeats 4000000 in
set_option maxRecDepth 100000 in
theorem tX6_odds (l : Launch) (dC : Nat → ClassId) (dI : Nat → Nat → Nat) (sz : Nat) (oK : Nat) (oR : Nat) (oC : Nat) (oS : Nat) (oT : Nat) (rK_images : Nat) (iK_imageCount : Int32) (oA : Nat) (oH : Nat) (oL : Nat) (iK_refusal : Int32) (iK_latestFault : Int32) (iK_latestPlace : Int32) (iC_nodes : Int32) (iC_words : Int32) (iC_chances : Int32) (iC_unsures : Int32) (iC_slips : Int32) (iC_throneNode : Int32) (iC_saidWorth : Int32) (iC_unit : Int32) (rC_kind : Nat) (fC_kind : Nat → Int32) (kC_kind : ClassId) (rC_parts : Nat) (fC_parts : Nat → Int32) (kC_parts : ClassId) (rC_partNodes : Nat) (fC_partNodes : Nat → Int32) (kC_partNodes : ClassId) (rC_weights : Nat) (fC_weights : Nat → Int32) (kC_weights : ClassId) (rC_weightSums : Nat) (fC_weightSums : Nat → Int32) (kC_weightSums : ClassId) (rC_toldWorths : Nat) (rC_steps : Nat) (rC_below : Nat) (rC_above : Nat) (rC_unsureWords : Nat) (fC_unsureWords : Nat → Int32) (kC_unsureWords : ClassId) (rC_unsureWorths : Nat) (fC_unsureWorths : Nat → Int32) (kC_unsureWorths : ClassId) (rS_worths : Nat) (fS_worths : Nat → Int32) (kS_worths : ClassId) (rS_order : Nat) (rS_left : Nat) (rL_values : Nat) (fL_values : Nat → Int32) (kL_values : ClassId) (rL_supposed : Nat) (fL_supposed : Nat → Int32) (kL_supposed : ClassId) (p0 : Int32) (p1 : Int32) (b_iK_imageCount : 0 ≤ iK_imageCount.toInt ∧ iK_imageCount.toInt ≤ 3) (b_iC_nodes : 0 ≤ iC_nodes.toInt ∧ iC_nodes.toInt ≤ 18) (b_iC_unsures : 0 ≤ iC_unsures.toInt ∧ iC_unsures.toInt ≤ 4) (b_iC_throneNode : (-1) ≤ iC_throneNode.toInt ∧ iC_throneNode.toInt ≤ 17) (a_fC_parts : ∀ j : Nat, j < 18 → 0 ≤ (fC_parts j).toInt ∧ (fC_parts j).toInt ≤ 4) (a_fC_partNodes : ∀ j : Nat, j < 72 → 0 ≤ (fC_partNodes j).toInt ∧ (fC_partNodes j).toInt ≤ 17) (a_fC_unsureWords : ∀ j : Nat, j < 4 → 0 ≤ (fC_unsureWords j).toInt ∧ (fC_unsureWords j).toInt ≤ 17)  : Met l yX6_odds (Cond.code yX6_odds cX6_odds 6 (some .long) :: wG) ({ frames := 4, cells := 0, slots := 0, locals := 95 }) (va_Pc [.ref oK, .int p0, .int p1] (Pw dC dI sz [(oc6 oK oR oC oS oT rK_images iK_imageCount oA oH oL iK_refusal iK_latestFault iK_latestPlace), (oc1 oC iC_nodes iC_words iC_chances iC_unsures iC_slips iC_throneNode iC_saidWorth iC_unit rC_kind rC_parts rC_partNodes rC_weights rC_weightSums rC_toldWorths rC_steps rC_below rC_above rC_unsureWords rC_unsureWorths), (arI rC_kind kC_kind 18 fC_kind), (arI rC_parts kC_parts 18 fC_parts), (arI rC_partNodes kC_partNodes 72 fC_partNodes), (arI rC_weights kC_weights 72 fC_weights), (arI rC_weightSums kC_weightSums 18 fC_weightSums), (arI rC_unsureWords kC_unsureWords 4 fC_unsureWords), (arI rC_unsureWorths kC_unsureWorths 4 fC_unsureWorths), (oc5 oS rS_worths rS_order rS_left), (arI rS_worths kS_worths 18 fS_worths), (oc4 oL rL_values rL_supposed), (arI rL_values kL_values 18 fL_values), (arI rL_supposed kL_supposed 18 fL_supposed)] [(kC_kind, .int), (kC_parts, .int), (kC_partNodes, .int), (kC_weights, .int), (kC_weightSums, .int), (kC_unsureWords, .int), (kC_unsureWorths, .int), (kS_worths, .int), (kL_values, .int), (kL_supposed, .int)])) (va_Ql (fun (r : Int64) (u : Nat) => (True ∧ True) ∧ r = Int64.ofNat u) (fun (u : Nat) (t : State) => ∃ (niK_refusal : Int32) (nfL_values : Nat → Int32) (nfL_supposed : Nat → Int32), (PX6_odds iC_nodes iC_unsures iC_slips iC_throneNode iC_unit fC_kind fC_parts fC_partNodes fC_weights fC_weightSums fC_unsureWords fC_unsureWorths fS_worths fL_values fL_supposed p0 p1 = (Int64.ofNat u, niK_refusal, nfL_values, nfL_supposed)) ∧ Bw dC dI (va_A [(oc6 oK oR oC oS oT rK_images iK_imageCount oA oH oL iK_refusal iK_latestFault iK_latestPlace), (oc1 oC iC_nodes iC_words iC_chances iC_unsures iC_slips iC_throneNode iC_saidWorth iC_unit rC_kind rC_parts rC_partNodes rC_weights rC_weightSums rC_toldWorths rC_steps rC_below rC_above rC_unsureWords rC_unsureWorths), (arI rC_kind kC_kind 18 fC_kind), (arI rC_parts kC_parts 18 fC_parts), (arI rC_partNodes kC_partNodes 72 fC_partNodes), (arI rC_weights kC_weights 72 fC_weights), (arI rC_weightSums kC_weightSums 18 fC_weightSums), (arI rC_unsureWords kC_unsureWords 4 fC_unsureWords), (arI rC_unsureWorths kC_unsureWorths 4 fC_unsureWorths), (oc5 oS rS_worths rS_order rS_left), (arI rS_worths kS_worths 18 fS_worths), (oc4 oL rL_values rL_supposed), (arI rL_values kL_values 18 fL_values), (arI rL_supposed kL_supposed 18 fL_supposed)] sz) [(oc6 oK oR oC oS oT rK_images iK_imageCount oA oH oL niK_refusal iK_latestFault iK_latestPlace), (oc1 oC iC_nodes iC_words iC_chances iC_unsures iC_slips iC_throneNode iC_saidWorth iC_unit rC_kind rC_parts rC_partNodes rC_weights rC_weightSums rC_toldWorths rC_steps rC_below rC_above rC_unsureWords rC_unsureWorths), (arI rC_kind kC_kind 18 fC_kind), (arI rC_parts kC_parts 18 fC_parts), (arI rC_partNodes kC_partNodes 72 fC_partNodes), (arI rC_weights kC_weights 72 fC_weights), (arI rC_weightSums kC_weightSums 18 fC_weightSums), (arI rC_unsureWords kC_unsureWords 4 fC_unsureWords), (arI rC_unsureWorths kC_unsureWorths 4 fC_unsureWorths), (oc5 oS rS_worths rS_order rS_left), (arI rS_worths kS_worths 18 fS_worths), (oc4 oL rL_values rL_supposed), (arI rL_values kL_values 18 nfL_values), (arI rL_supposed kL_supposed 18 nfL_supposed)] [(kC_kind, .int), (kC_parts, .int), (kC_partNodes, .int), (kC_weights, .int), (kC_weightSums, .int), (kC_unsureWords, .int), (kC_unsureWorths, .int), (kS_worths, .int), (kL_values, .int), (kL_supposed, .int)] t) (va_A [(oc6 oK oR oC oS oT rK_images iK_imageCount oA oH oL iK_refusal iK_latestFault iK_latestPlace), (oc1 oC iC_nodes iC_words iC_chances iC_unsures iC_slips iC_throneNode iC_saidWorth iC_unit rC_kind rC_parts rC_partNodes rC_weights rC_weightSums rC_toldWorths rC_steps rC_below rC_above rC_unsureWords rC_unsureWorths), (arI rC_kind kC_kind 18 fC_kind), (arI rC_parts kC_parts 18 fC_parts), (arI rC_partNodes kC_partNodes 72 fC_partNodes), (arI rC_weights kC_weights 72 fC_weights), (arI rC_weightSums kC_weightSums 18 fC_weightSums), (arI rC_unsureWords kC_unsureWords 4 fC_unsureWords), (arI rC_unsureWorths kC_unsureWorths 4 fC_unsureWorths), (oc5 oS rS_worths rS_order rS_left), (arI rS_worths kS_worths 18 fS_worths), (oc4 oL rL_values rL_supposed), (arI rL_values kL_values 18 fL_values), (arI rL_supposed kL_supposed 18 fL_supposed)] sz)) 0 0 (va_A [(oc6 oK oR oC oS oT rK_images iK_imageCount oA oH oL iK_refusal iK_latestFault iK_latestPlace), (oc1 oC iC_nodes iC_words iC_chances iC_unsures iC_slips iC_throneNode iC_saidWorth iC_unit rC_kind rC_parts rC_partNodes rC_weights rC_weightSums rC_toldWorths rC_steps rC_below rC_above rC_unsureWords rC_unsureWorths), (arI rC_kind kC_kind 18 fC_kind), (arI rC_parts kC_parts 18 fC_parts), (arI rC_partNodes kC_partNodes 72 fC_partNodes), (arI rC_weights kC_weights 72 fC_weights), (arI rC_weightSums kC_weightSums 18 fC_weightSums), (arI rC_unsureWords kC_unsureWords 4 fC_unsureWords), (arI rC_unsureWorths kC_unsureWorths 4 fC_unsureWorths), (oc5 oS rS_worths rS_order rS_left), (arI rS_worths kS_worths 18 fS_worths), (oc4 oL rL_values rL_supposed), (arI rL_values kL_values 18 fL_values), (arI rL_supposed kL_supposed 18 fL_supposed)] sz) := by
  refine Met.ofW (cc := cX6_odds) (maxL := 6) (ret := (some .long)) pnX6 rfl ?_
  intro p e s m args below meth c s₁ B hml hv
  obtain ⟨rfl, hsz, hP, hK, hD0, hE⟩ := hv
  have hx := B.exec
  have hb := B.bytes
  have hr := B.returns
  have hts : ∀ w ∈ wG, w.before ([.ref oK, .int p0, .int p1] : List Value).toArray s = true := fun w h => atoms_spec (ws := Cond.code yX6_odds cX6_odds 6 (some .long) :: wG) B.pre w (List.mem_cons_of_mem _ h)
  have hown : s.vm.findClass RX6 = some m.cls := own_of B.named rfl
  have hlocks := B.notSynchronized
  subst hsz
  have hD := hD0.self (sz := s.heap.size)
  generalize hAe : va_A [(oc6 oK oR oC oS oT rK_images iK_imageCount oA oH oL iK_refusal iK_latestFault iK_latestPlace), (oc1 oC iC_nodes iC_words iC_chances iC_unsures iC_slips iC_throneNode iC_saidWorth iC_unit rC_kind rC_parts rC_partNodes rC_weights rC_weightSums rC_toldWorths rC_steps rC_below rC_above rC_unsureWords rC_unsureWorths), (arI rC_kind kC_kind 18 fC_kind), (arI rC_parts kC_parts 18 fC_parts), (arI rC_partNodes kC_partNodes 72 fC_partNodes), (arI rC_weights kC_weights 72 fC_weights), (arI rC_weightSums kC_weightSums 18 fC_weightSums), (arI rC_unsureWords kC_unsureWords 4 fC_unsureWords), (arI rC_unsureWorths kC_unsureWorths 4 fC_unsureWorths), (oc5 oS rS_worths rS_order rS_left), (arI rS_worths kS_worths 18 fS_worths), (oc4 oL rL_values rL_supposed), (arI rL_values kL_values 18 fL_values), (arI rL_supposed kL_supposed 18 fL_supposed)] s.heap.size = A at hD hE ⊢
  have hA : ∀ q : Nat, s.heap.size ≤ q → A q := fun q h => by rw [← hAe]; exact Or.inr h
  have hS : va_S A s.heap s.heap [] := va_S.rf
  have hl := lv_entry ([.ref oK, .int p0, .int p1]) (n := 6) (Nat.le_of_ble_eq_true rfl)
  rw [lg_entry_eq]
  generalize (lg_sl ([.ref oK, .int p0, .int p1]) ++ List.replicate (6 - (lg_sl ([.ref oK, .int p0, .int p1])).length) Slot.unset).toArray = ls at hl ⊢
  have hl : lv_has ls 6 [(0, .ref oK), (1, .int p0), (2, .int p1)] := hl
  have hG := PX6_odds_eq iC_nodes iC_unsures iC_slips iC_throneNode iC_unit fC_kind fC_parts fC_partNodes fC_weights fC_weightSums fC_unsureWords fC_unsureWorths fS_worths fL_values fL_supposed p0 p1
  have rg_p0 := fb_rng p0
  have rg_p1 := fb_rng p1
  refine lv_aload_n hx hb dX6_odds_0 rfl (lv_at hl 0 rfl) ?_
  refine lv_iload_n hx hb dX6_odds_1 rfl (lv_at hl 1 rfl) ?_
  refine lv_iconst (v := 0) hx hb dX6_odds_2 (by decide) ?_
  refine lv_bipush (v := 99) hx hb dX6_odds_3 (by decide) ?_
  have hMs := ml_of hD [true, true, false, false, false, false, false, false, false, false, false, false, false, false] (wc := [(oc6 oK oR oC oS oT rK_images iK_imageCount oA oH oL iK_refusal iK_latestFault iK_latestPlace), (oc1 oC iC_nodes iC_words iC_chances iC_unsures iC_slips iC_throneNode iC_saidWorth iC_unit rC_kind rC_parts rC_partNodes rC_weights rC_weightSums rC_toldWorths rC_steps rC_below rC_above rC_unsureWords rC_unsureWorths)]) rfl
  have hFc := va_freeM hD hS hA _ hMs
  refine va_calli (va_runV (As := [.int p0, .int 0, .int 99]) (rest := []) ⟨hx, hb, hml, hown, hts⟩ (tX6_lacksNumber l dC dI _ oK oR oC oS oT rK_images iK_imageCount oA oH oL iK_refusal iK_latestFault iK_latestPlace iC_nodes iC_words iC_chances iC_unsures iC_slips iC_throneNode iC_saidWorth iC_unit rC_kind rC_parts rC_partNodes rC_weights rC_weightSums rC_toldWorths rC_steps rC_below rC_above rC_unsureWords rC_unsureWorths p0 0 99 b_iK_imageCount b_iC_nodes b_iC_unsures b_iC_throneNode) (cwV 3 hts (wd_V wd_866 wd_867 wd_868 wd_2 (wd_c wd_869)) rfl rfl rfl dv_yX6_lacksNumber_3 ⟨Nat.le_of_ble_eq_true rfl, Nat.le_of_ble_eq_true rfl⟩) ⟨Pw.fb, recvX6 hK hP (q0 := 0) rfl, fun U hU hW => Pw.to (hP.ms _ hMs) (hD.ms _ hMs) (hK.ms [false, false, false, false, false, false, false, false, false, false] rfl) hE hS hFc hU hW⟩ rfl rfl hl.1 rfl (lv_room (Nat.le_of_ble_eq_true rfl)) dX6_odds_5 ⟨Nat.le_of_ble_eq_true rfl, Nat.le_of_ble_eq_true rfl⟩) hS (fun q _ h => hFc q h) hFc (fun r u t H locs ht hvm hw hB hz1 hk1 hS => ?_)
  have hru9 := hw.2
  have hw := hw.1
  refine ex_1_1 hB (fun x_6106 e_x_6106_0 hB => ?_)
  obtain ⟨hP, hD⟩ := Bw.goN (ws' := [(oc6 oK oR oC oS oT rK_images iK_imageCount oA oH oL x_6106 iK_latestFault iK_latestPlace), (oc1 oC iC_nodes iC_words iC_chances iC_unsures iC_slips iC_throneNode iC_saidWorth iC_unit rC_kind rC_parts rC_partNodes rC_weights rC_weightSums rC_toldWorths rC_steps rC_below rC_above rC_unsureWords rC_unsureWorths), (arI rC_kind kC_kind 18 fC_kind), (arI rC_parts kC_parts 18 fC_parts), (arI rC_partNodes kC_partNodes 72 fC_partNodes), (arI rC_weights kC_weights 72 fC_weights), (arI rC_weightSums kC_weightSums 18 fC_weightSums), (arI rC_unsureWords kC_unsureWords 4 fC_unsureWords), (arI rC_unsureWorths kC_unsureWorths 4 fC_unsureWorths), (oc5 oS rS_worths rS_order rS_left), (arI rS_worths kS_worths 18 fS_worths), (oc4 oL rL_values rL_supposed), (arI rL_values kL_values 18 fL_values), (arI rL_supposed kL_supposed 18 fL_supposed)]) hB rfl ht hP hD _ hMs hk1 hFc rfl
  clear hz1 hk1 hvm ht hB hMs
  have rg_x_6106 := fb_rng x_6106
  rw [← hru9] at e_x_6106_0
  rcases hw.2 with ⟨rfl, hc_6107⟩ | ⟨rfl, hc_6107⟩
  · skip
    have rg_iC_nodes := fb_rng iC_nodes
    have hG := hG.trans (un2_eq e_x_6106_0)
    have hG := hG.trans (if_pos rfl)
    refine lv_if_eq (tgt := 15) hx hb dX6_odds_8 (by decide) (fun _ => ?_) (fun c => absurd c (by decide))
    refine lv_lconst (v := 0) hx hb dX6_odds_15 (by decide) ?_
    refine lv_lstore_n (lv' := [(3, .long 0), (0, .ref oK), (1, .int p0), (2, .int p1)]) hx hb dX6_odds_16 rfl hl (by decide) rfl (fun ls hl => ?_)
    refine lv_iconst (v := 0) hx hb dX6_odds_17 (by decide) ?_
    refine lv_istore (lv' := [(5, .int 0), (3, .long 0), (0, .ref oK), (1, .int p0), (2, .int p1)]) hx hb dX6_odds_18 hl (by decide) rfl (fun ls hl => ?_)
    have hl := lv_sub hl (l' := [(5, .int 0), (3, .long 0), (0, .ref oK), (1, .int p0), (2, .int p1)]) [0, 1, 2, 3, 4] rfl
    have key_n_6114 : ∀ (n_6114 : Nat) (z_6110 : Int32) (z_6111 : Int64) (f_6112 : Nat → Int32) (f_6113 : Nat → Int32) (H : Heap) (locs : List Loc) (ls : Array Slot), (0 ≤ z_6110.toInt ∧ z_6110.toInt ≤ 2147483647) → (2147483647 - z_6110.toInt).toNat < n_6114 → (PX6_odds iC_nodes iC_unsures iC_slips iC_throneNode iC_unit fC_kind fC_parts fC_partNodes fC_weights fC_weightSums fC_unsureWords fC_unsureWorths fS_worths fL_values fL_supposed p0 p1 = HX6_odds_0 iC_nodes iC_unsures iC_slips iC_throneNode iC_unit fC_kind fC_parts fC_partNodes fC_weights fC_weightSums fC_unsureWords fC_unsureWorths fS_worths p0 p1 x_6106 n_6114 z_6110 z_6111 f_6112 f_6113) → va_P (dC, dI) vwCl [(oc6 oK oR oC oS oT rK_images iK_imageCount oA oH oL x_6106 iK_latestFault iK_latestPlace), (oc1 oC iC_nodes iC_words iC_chances iC_unsures iC_slips iC_throneNode iC_saidWorth iC_unit rC_kind rC_parts rC_partNodes rC_weights rC_weightSums rC_toldWorths rC_steps rC_below rC_above rC_unsureWords rC_unsureWorths), (arI rC_kind kC_kind 18 fC_kind), (arI rC_parts kC_parts 18 fC_parts), (arI rC_partNodes kC_partNodes 72 fC_partNodes), (arI rC_weights kC_weights 72 fC_weights), (arI rC_weightSums kC_weightSums 18 fC_weightSums), (arI rC_unsureWords kC_unsureWords 4 fC_unsureWords), (arI rC_unsureWorths kC_unsureWorths 4 fC_unsureWorths), (oc5 oS rS_worths rS_order rS_left), (arI rS_worths kS_worths 18 fS_worths), (oc4 oL rL_values rL_supposed), (arI rL_values kL_values 18 f_6112), (arI rL_supposed kL_supposed 18 f_6113)] H → va_D A [(oc6 oK oR oC oS oT rK_images iK_imageCount oA oH oL x_6106 iK_latestFault iK_latestPlace), (oc1 oC iC_nodes iC_words iC_chances iC_unsures iC_slips iC_throneNode iC_saidWorth iC_unit rC_kind rC_parts rC_partNodes rC_weights rC_weightSums rC_toldWorths rC_steps rC_below rC_above rC_unsureWords rC_unsureWorths), (arI rC_kind kC_kind 18 fC_kind), (arI rC_parts kC_parts 18 fC_parts), (arI rC_partNodes kC_partNodes 72 fC_partNodes), (arI rC_weights kC_weights 72 fC_weights), (arI rC_weightSums kC_weightSums 18 fC_weightSums), (arI rC_unsureWords kC_unsureWords 4 fC_unsureWords), (arI rC_unsureWorths kC_unsureWorths 4 fC_unsureWorths), (oc5 oS rS_worths rS_order rS_left), (arI rS_worths kS_worths 18 fS_worths), (oc4 oL rL_values rL_supposed), (arI rL_values kL_values 18 f_6112), (arI rL_supposed kL_supposed 18 f_6113)] → va_S A s.heap H locs → lv_has ls 6 [(5, .int z_6110), (3, .long z_6111), (0, .ref oK), (1, .int p0), (2, .int p1)] → W p l e (headSpec (Cond.code yX6_odds cX6_odds 6 (some .long) :: wG) ({ frames := 4, cells := 0, slots := 0, locals := 95 })).room s m ([.ref oK, .int p0, .int p1] : List Value).toArray below meth c H locs 0 0 (MQ below (va_Ql (fun (r : Int64) (u : Nat) => (True ∧ True) ∧ r = Int64.ofNat u) (fun (u : Nat) (t : State) => ∃ (niK_refusal : Int32) (nfL_values : Nat → Int32) (nfL_supposed : Nat → Int32), (PX6_odds iC_nodes iC_unsures iC_slips iC_throneNode iC_unit fC_kind fC_parts fC_partNodes fC_weights fC_weightSums fC_unsureWords fC_unsureWorths fS_worths fL_values fL_supposed p0 p1 = (Int64.ofNat u, niK_refusal, nfL_values, nfL_supposed)) ∧ Bw dC dI A [(oc6 oK oR oC oS oT rK_images iK_imageCount oA oH oL niK_refusal iK_latestFault iK_latestPlace), (oc1 oC iC_nodes iC_words iC_chances iC_unsures iC_slips iC_throneNode iC_saidWorth iC_unit rC_kind rC_parts rC_partNodes rC_weights rC_weightSums rC_toldWorths rC_steps rC_below rC_above rC_unsureWords rC_unsureWorths), (arI rC_kind kC_kind 18 fC_kind), (arI rC_parts kC_parts 18 fC_parts), (arI rC_partNodes kC_partNodes 72 fC_partNodes), (arI rC_weights kC_weights 72 fC_weights), (arI rC_weightSums kC_weightSums 18 fC_weightSums), (arI rC_unsureWords kC_unsureWords 4 fC_unsureWords), (arI rC_unsureWorths kC_unsureWorths 4 fC_unsureWorths), (oc5 oS rS_worths rS_order rS_left), (arI rS_worths kS_worths 18 fS_worths), (oc4 oL rL_values rL_supposed), (arI rL_values kL_values 18 nfL_values), (arI rL_supposed kL_supposed 18 nfL_supposed)] [(kC_kind, .int), (kC_parts, .int), (kC_partNodes, .int), (kC_weights, .int), (kC_weightSums, .int), (kC_unsureWords, .int), (kC_unsureWorths, .int), (kS_worths, .int), (kL_values, .int), (kL_supposed, .int)] t) A) ([.ref oK, .int p0, .int p1] : List Value).toArray s 0 0 A) (F0 m 20 ls []) := by
      intro n_6114
      induction n_6114 with
      | zero => intro z_6110 z_6111 f_6112 f_6113 H locs ls hi0_n_6114 hm; exact absurd hm (Nat.not_lt_zero _)
      | succ n_6114 ih_n_6114 =>
        intro z_6110 z_6111 f_6112 f_6113 H locs ls hi0_n_6114 hm_n_6114 hG hP hD hS hl
        have hG := hG.trans (HX6_odds_0_eq _ _ _ _ _ _ _ _ _ _ _ _ _ _ _ _ _ _ _ _ _)
        have rg_z_6110 := fb_rng z_6110
        refine lv_iload hx hb dX6_odds_20 (lv_at hl 0 rfl) ?_
        refine lv_aload_n hx hb dX6_odds_22 rfl (lv_at hl 2 rfl) ?_
        refine va_get (D := (dC, dI)) (ci := 6) (v := .ref oC) (C := RX6) (T := TX6) (N := 12) hx hb hts inX6 hown hK hP 0 rfl rfl 1 (by decide) (hts _ wd_20) (fun _ h9 => h9) rfl dX6_odds_23 ?_
        have hMs := ml_of hD [false, true, false, false, false, false, false, false, false, false, false, false, false, false] (wc := [(oc1 oC iC_nodes iC_words iC_chances iC_unsures iC_slips iC_throneNode iC_saidWorth iC_unit rC_kind rC_parts rC_partNodes rC_weights rC_weightSums rC_toldWorths rC_steps rC_below rC_above rC_unsureWords rC_unsureWorths)]) rfl
        have hFc := va_freeM hD hS hA _ hMs
        refine va_calli (va_runV (As := []) (rest := [.int z_6110]) ⟨hx, hb, hml, hown, hts⟩ (tX1_unsureSets l dC dI _ oC iC_nodes iC_words iC_chances iC_unsures iC_slips iC_throneNode iC_saidWorth iC_unit rC_kind rC_parts rC_partNodes rC_weights rC_weightSums rC_toldWorths rC_steps rC_below rC_above rC_unsureWords rC_unsureWorths b_iC_nodes b_iC_unsures b_iC_throneNode) (cwV 0 hts (wd_V wd_1165 wd_1166 wd_1167 wd_19 (wd_c wd_1168)) rfl rfl rfl dv_yX1_unsureSets_0 ⟨Nat.le_of_ble_eq_true rfl, Nat.le_of_ble_eq_true rfl⟩) ⟨Pw.fb, recvX1 hK hP (q0 := 1) rfl, fun U hU hW => Pw.to (hP.ms _ hMs) (hD.ms _ hMs) (hK.ms [false, false, false, false, false, false, false, false, false, false] rfl) hE hS hFc hU hW⟩ rfl rfl hl.1 rfl (lv_room (Nat.le_of_ble_eq_true rfl)) dX6_odds_26 ⟨Nat.le_of_ble_eq_true rfl, Nat.le_of_ble_eq_true rfl⟩) hS (fun q _ h => hFc q h) hFc (fun r u t H locs ht hvm hw hB hz1 hk1 hS => ?_)
        have hru9 := hw.2
        have hw := hw.1
        obtain ⟨hP, hD⟩ := Bw.goN (ws' := [(oc6 oK oR oC oS oT rK_images iK_imageCount oA oH oL x_6106 iK_latestFault iK_latestPlace), (oc1 oC iC_nodes iC_words iC_chances iC_unsures iC_slips iC_throneNode iC_saidWorth iC_unit rC_kind rC_parts rC_partNodes rC_weights rC_weightSums rC_toldWorths rC_steps rC_below rC_above rC_unsureWords rC_unsureWorths), (arI rC_kind kC_kind 18 fC_kind), (arI rC_parts kC_parts 18 fC_parts), (arI rC_partNodes kC_partNodes 72 fC_partNodes), (arI rC_weights kC_weights 72 fC_weights), (arI rC_weightSums kC_weightSums 18 fC_weightSums), (arI rC_unsureWords kC_unsureWords 4 fC_unsureWords), (arI rC_unsureWorths kC_unsureWorths 4 fC_unsureWorths), (oc5 oS rS_worths rS_order rS_left), (arI rS_worths kS_worths 18 fS_worths), (oc4 oL rL_values rL_supposed), (arI rL_values kL_values 18 f_6112), (arI rL_supposed kL_supposed 18 f_6113)]) hB rfl ht hP hD _ hMs hk1 hFc rfl
        clear hz1 hk1 hvm ht hB hMs
        obtain ⟨x_6115, rfl⟩ : ∃ z, z = r := ⟨_, rfl⟩
        have hG := hG.trans (lt_eq hru9.symm)
        have rg_x_6115 := fb_rng x_6115
        have ux_6115 := hw.2
        refine lv_icmp_ge (tgt := 82) hx hb dX6_odds_29 (by decide) (fun c_6116 => ?_) (fun c_6116 => ?_)
        · skip
          have hG := hG.trans (if_pos c_6116)
          have gc_6116 := ti_le c_6116 rfl rfl
          refine lv_lload_n hx hb dX6_odds_82 rfl (lv_at hl 1 rfl) ?_
          refine lv_aload_n hx hb dX6_odds_83 rfl (lv_at hl 2 rfl) ?_
          refine va_get (D := (dC, dI)) (ci := 6) (v := .ref oC) (C := RX6) (T := TX6) (N := 12) hx hb hts inX6 hown hK hP 0 rfl rfl 1 (by decide) (hts _ wd_20) (fun _ h9 => h9) rfl dX6_odds_84 ?_
          have hMs := ml_of hD [false, true, false, false, false, false, false, false, false, false, false, false, false, false] (wc := [(oc1 oC iC_nodes iC_words iC_chances iC_unsures iC_slips iC_throneNode iC_saidWorth iC_unit rC_kind rC_parts rC_partNodes rC_weights rC_weightSums rC_toldWorths rC_steps rC_below rC_above rC_unsureWords rC_unsureWorths)]) rfl
          have hFc := va_freeM hD hS hA _ hMs
          refine va_calll (va_runV (As := []) (rest := [.long z_6111]) ⟨hx, hb, hml, hown, hts⟩ (tX1_allLikelihood l dC dI _ oC iC_nodes iC_words iC_chances iC_unsures iC_slips iC_throneNode iC_saidWorth iC_unit rC_kind rC_parts rC_partNodes rC_weights rC_weightSums rC_toldWorths rC_steps rC_below rC_above rC_unsureWords rC_unsureWorths b_iC_nodes b_iC_unsures b_iC_throneNode) (cwV 0 hts (wd_V wd_1262 wd_1263 wd_1264 wd_19 (wd_c wd_1265)) rfl rfl rfl dv_yX1_allLikelihood_0 ⟨Nat.le_of_ble_eq_true rfl, Nat.le_of_ble_eq_true rfl⟩) ⟨Pw.fb, recvX1 hK hP (q0 := 1) rfl, fun U hU hW => Pw.to (hP.ms _ hMs) (hD.ms _ hMs) (hK.ms [false, false, false, false, false, false, false, false, false, false] rfl) hE hS hFc hU hW⟩ rfl rfl hl.1 rfl (lv_room (Nat.le_of_ble_eq_true rfl)) dX6_odds_87 ⟨Nat.le_of_ble_eq_true rfl, Nat.le_of_ble_eq_true rfl⟩) hS (fun q _ h => hFc q h) hFc (fun r u t H locs ht hvm hw hB hz1 hk1 hS => ?_)
          have hru9 := hw.2
          have hw := hw.1
          obtain ⟨hP, hD⟩ := Bw.goN (ws' := [(oc6 oK oR oC oS oT rK_images iK_imageCount oA oH oL x_6106 iK_latestFault iK_latestPlace), (oc1 oC iC_nodes iC_words iC_chances iC_unsures iC_slips iC_throneNode iC_saidWorth iC_unit rC_kind rC_parts rC_partNodes rC_weights rC_weightSums rC_toldWorths rC_steps rC_below rC_above rC_unsureWords rC_unsureWorths), (arI rC_kind kC_kind 18 fC_kind), (arI rC_parts kC_parts 18 fC_parts), (arI rC_partNodes kC_partNodes 72 fC_partNodes), (arI rC_weights kC_weights 72 fC_weights), (arI rC_weightSums kC_weightSums 18 fC_weightSums), (arI rC_unsureWords kC_unsureWords 4 fC_unsureWords), (arI rC_unsureWorths kC_unsureWorths 4 fC_unsureWorths), (oc5 oS rS_worths rS_order rS_left), (arI rS_worths kS_worths 18 fS_worths), (oc4 oL rL_values rL_supposed), (arI rL_values kL_values 18 f_6112), (arI rL_supposed kL_supposed 18 f_6113)]) hB rfl ht hP hD _ hMs hk1 hFc rfl
          clear hz1 hk1 hvm ht hB hMs
          obtain ⟨y_6117, rfl⟩ : ∃ z, z = r := ⟨_, rfl⟩
          have hG := hG.trans (lt_eq hru9.symm)
          refine lv_iload_n hx hb dX6_odds_90 rfl (lv_at hl 4 rfl) ?_
          have hFc : ∀ q, va_A [] _ q → A q := fun q h => hA q (Nat.le_trans hS.1 (va_nilA h))
          refine va_calll (va_runS (As := [.long z_6111, .long y_6117, .int p1]) (rest := []) ⟨hx, hb, hml, hown, hts⟩ (tX6_inLowestTerms l dC dI _ z_6111 y_6117 p1 ) (va_cwS 3 hts (wd_S wd_635 wd_636 wd_2 (wd_c wd_637)) rfl rfl rfl ds_yX6_inLowestTerms_3 ⟨Nat.le_of_ble_eq_true rfl, Nat.le_of_ble_eq_true rfl⟩) ⟨Pw.fb, fun U hU hW => Pn.to hK hE hS hA hU hW⟩ rfl rfl hl.1 rfl (lv_room (Nat.le_of_ble_eq_true rfl)) dX6_odds_91 ⟨Nat.le_of_ble_eq_true rfl, Nat.le_of_ble_eq_true rfl⟩) hS (fun q _ h => hFc q h) hFc (fun r u t H locs ht hvm hw hB hz1 hk1 hS => ?_)
          obtain ⟨hP, hD, hK⟩ := Bw.same ht hvm hP hD hK hk1 hFc
          clear hz1 hk1 hvm ht hB
          have hq9 := hw.2
          have hw := hw.1
          obtain ⟨y_6118, rfl⟩ : ∃ z, z = r := ⟨_, rfl⟩
          have hq_y_6118 := hq9
          have hG := hG.trans (lt_eq hq_y_6118.symm)
          exact wq_l hx hb hr (cL y_6118) ⟨⟨trivial, trivial⟩, (cL_of y_6118)⟩ (fun t ht hW => ⟨x_6106, f_6112, f_6113, (cL_tup hG), Bw.to hP hD hK ht hW⟩) hS dX6_odds_94 hlocks
        · skip
          have hG := hG.trans (if_neg c_6116)
          have gc_6116 := ti_nle c_6116 rfl rfl
          refine lv_aload_n hx hb dX6_odds_32 rfl (lv_at hl 2 rfl) ?_
          refine va_get (D := (dC, dI)) (ci := 6) (v := .ref oL) (C := RX6) (T := TX6) (N := 12) hx hb hts inX6 hown hK hP 0 rfl rfl 8 (by decide) (hts _ wd_38) (fun _ h9 => h9) rfl dX6_odds_33 ?_
          refine lv_aload_n hx hb dX6_odds_36 rfl (lv_at hl 2 rfl) ?_
          refine va_get (D := (dC, dI)) (ci := 6) (v := .ref oC) (C := RX6) (T := TX6) (N := 12) hx hb hts inX6 hown hK hP 0 rfl rfl 1 (by decide) (hts _ wd_20) (fun _ h9 => h9) rfl dX6_odds_37 ?_
          refine lv_aload_n hx hb dX6_odds_40 rfl (lv_at hl 2 rfl) ?_
          refine va_get (D := (dC, dI)) (ci := 6) (v := .ref oS) (C := RX6) (T := TX6) (N := 12) hx hb hts inX6 hown hK hP 0 rfl rfl 2 (by decide) (hts _ wd_24) (fun _ h9 => h9) rfl dX6_odds_41 ?_
          refine va_get (D := (dC, dI)) (ci := 5) (v := .ref rS_worths) (C := RX5) (T := TX5) (N := 3) hx hb hts inX5 hown hK hP 9 rfl rfl 0 (by decide) (hts _ wd_609) (fun _ h9 => h9) rfl dX6_odds_44 ?_
          refine lv_iload hx hb dX6_odds_47 (lv_at hl 0 rfl) ?_
          have hFc := va_free (wc := [(oc4 oL rL_values rL_supposed), (arI rL_values kL_values 18 f_6112), (arI rL_supposed kL_supposed 18 f_6113), (oc1 oC iC_nodes iC_words iC_chances iC_unsures iC_slips iC_throneNode iC_saidWorth iC_unit rC_kind rC_parts rC_partNodes rC_weights rC_weightSums rC_toldWorths rC_steps rC_below rC_above rC_unsureWords rC_unsureWorths), (arI rC_kind kC_kind 18 fC_kind), (arI rC_parts kC_parts 18 fC_parts), (arI rC_partNodes kC_partNodes 72 fC_partNodes), (arI rC_weights kC_weights 72 fC_weights), (arI rC_weightSums kC_weightSums 18 fC_weightSums), (arI rC_unsureWords kC_unsureWords 4 fC_unsureWords), (arI rC_unsureWorths kC_unsureWorths 4 fC_unsureWorths), (arI rS_worths kS_worths 18 fS_worths)]) hD hS hA [11, 12, 13, 1, 2, 3, 4, 5, 6, 7, 8, 10] rfl
          refine va_calli (va_runV (As := [.ref oC, .ref rS_worths, .int z_6110]) (rest := []) ⟨hx, hb, hml, hown, hts⟩ (tX4_throneByUnsure l dC dI _ oL rL_values f_6112 kL_values rL_supposed f_6113 kL_supposed oC iC_nodes iC_words iC_chances iC_unsures iC_slips iC_throneNode iC_saidWorth iC_unit rC_kind fC_kind kC_kind rC_parts fC_parts kC_parts rC_partNodes fC_partNodes kC_partNodes rC_weights fC_weights kC_weights rC_weightSums fC_weightSums kC_weightSums rC_toldWorths rC_steps rC_below rC_above rC_unsureWords fC_unsureWords kC_unsureWords rC_unsureWorths fC_unsureWorths kC_unsureWorths rS_worths fS_worths kS_worths z_6110 b_iC_nodes b_iC_unsures b_iC_throneNode a_fC_parts a_fC_partNodes a_fC_unsureWords) (cwV 3 hts (wd_V wd_1169 wd_1170 wd_1171 wd_37 (wd_c wd_1172)) rfl rfl rfl dv_yX4_throneByUnsure_3 ⟨Nat.le_of_ble_eq_true rfl, Nat.le_of_ble_eq_true rfl⟩) ⟨Pw.fb, recvX4 hK hP (q0 := 11) rfl, fun U hU hW => Pw.to (hP.sub [11, 12, 13, 1, 2, 3, 4, 5, 6, 7, 8, 10] rfl) (hD.sub [11, 12, 13, 1, 2, 3, 4, 5, 6, 7, 8, 10] (by decide) rfl) (hK.sub [8, 9, 0, 1, 2, 3, 4, 5, 6, 7] rfl) hE hS hFc hU hW⟩ rfl rfl hl.1 rfl (lv_room (Nat.le_of_ble_eq_true rfl)) dX6_odds_49 ⟨Nat.le_of_ble_eq_true rfl, Nat.le_of_ble_eq_true rfl⟩) hS (fun q _ h => hFc q h) hFc (fun r u t H locs ht hvm hw hB hz1 hk1 hS => ?_)
          have hru9 := hw.2
          have hw := hw.1
          refine ex_2_1 hB (fun f_6119 f_6120 e_f_6119_0 hB => ?_)
          obtain ⟨hP, hD, hK⟩ := Bw.go (ws' := [(oc6 oK oR oC oS oT rK_images iK_imageCount oA oH oL x_6106 iK_latestFault iK_latestPlace), (oc5 oS rS_worths rS_order rS_left), (oc4 oL rL_values rL_supposed), (arI rL_values kL_values 18 f_6119), (arI rL_supposed kL_supposed 18 f_6120), (oc1 oC iC_nodes iC_words iC_chances iC_unsures iC_slips iC_throneNode iC_saidWorth iC_unit rC_kind rC_parts rC_partNodes rC_weights rC_weightSums rC_toldWorths rC_steps rC_below rC_above rC_unsureWords rC_unsureWorths), (arI rC_kind kC_kind 18 fC_kind), (arI rC_parts kC_parts 18 fC_parts), (arI rC_partNodes kC_partNodes 72 fC_partNodes), (arI rC_weights kC_weights 72 fC_weights), (arI rC_weightSums kC_weightSums 18 fC_weightSums), (arI rC_unsureWords kC_unsureWords 4 fC_unsureWords), (arI rC_unsureWorths kC_unsureWorths 4 fC_unsureWorths), (arI rS_worths kS_worths 18 fS_worths)]) (tys' := [(kL_values, .int), (kL_supposed, .int), (kC_kind, .int), (kC_parts, .int), (kC_partNodes, .int), (kC_weights, .int), (kC_weightSums, .int), (kC_unsureWords, .int), (kC_unsureWorths, .int), (kS_worths, .int)]) hB rfl ht hvm hP hD hK [11, 12, 13, 1, 2, 3, 4, 5, 6, 7, 8, 10] [0, 9] rfl (by decide) (by decide) [] hk1 hFc rfl rfl rfl
          clear hz1 hk1 hvm ht hB
          rw [← hru9] at e_f_6119_0
          obtain ⟨x_6121, rfl⟩ : ∃ z, z = r := ⟨_, rfl⟩
          have hG := hG.trans (un3_eq e_f_6119_0)
          have rg_x_6121 := fb_rng x_6121
          refine lv_iload_n hx hb dX6_odds_52 rfl (lv_at hl 3 rfl) ?_
          refine lv_aload_n hx hb dX6_odds_53 rfl (lv_at hl 2 rfl) ?_
          refine va_get (D := (dC, dI)) (ci := 6) (v := .ref oC) (C := RX6) (T := TX6) (N := 12) hx hb hts inX6 hown hK hP 0 rfl rfl 1 (by decide) (hts _ wd_20) (fun _ h9 => h9) rfl dX6_odds_54 ?_
          refine va_get (D := (dC, dI)) (ci := 1) (v := .int iC_unit) (C := RX1) (T := TX1) (N := 19) hx hb hts inX1 hown hK hP 5 rfl rfl 7 (by decide) (hts _ wd_611) (fun _ h9 => h9) rfl dX6_odds_57 ?_
          have rg_iC_unit := fb_rng iC_unit
          refine lv_imul hx hb dX6_odds_60 ?_
          refine lv_topi (fun x_6122 ex_6122 => ?_)
          have hG := hG.trans (lt_eq ex_6122)
          have rg_x_6122 := fb_rng x_6122
          refine lv_icmp_lt (tgt := 76) hx hb dX6_odds_61 (by decide) (fun c_6123 => ?_) (fun c_6123 => ?_)
          · skip
            have hG := hG.trans (if_pos c_6123)
            have gc_6123 := ti_lt c_6123 rfl rfl
            obtain ⟨x_6124, ex_6124⟩ : ∃ z : Int32, z = z_6110 + Int32.ofInt 1 := ⟨_, rfl⟩
            have hG := hG.trans (lt_eq ex_6124)
            have vx_6124 : x_6124.toInt = z_6110.toInt + 1 := ti_add (y := 1) ex_6124 rfl kc_1 (om_4e4fce7e hi0_n_6114.1) (om_26fca3fc ux_6115.2 gc_6116)
            refine lv_iinc (v := x_6124) (lv' := [(5, .int x_6124), (3, .long z_6111), (0, .ref oK), (1, .int p0), (2, .int p1)]) hx hb dX6_odds_76 hl (k := 0) rfl ex_6124.symm (by decide) rfl (fun ls hl => ?_)
            refine lv_goto (tgt := 20) hx hb dX6_odds_79 (by decide) ?_
            exact ih_n_6114 x_6124 z_6111 f_6119 f_6120 _ _ _  ⟨(om_83b90de5 hi0_n_6114.1 vx_6124), (om_4b156bce ux_6115.2 gc_6116 vx_6124)⟩ (ms_lt hm_n_6114 (om_b9393183 vx_6124) (om_33376cd8 ux_6115.2 gc_6116)) hG (hP.sub [0, 5, 6, 7, 8, 9, 10, 11, 12, 1, 13, 2, 3, 4] rfl) (hD.sub [0, 5, 6, 7, 8, 9, 10, 11, 12, 1, 13, 2, 3, 4] (by decide) rfl) hS (lv_sub hl [0, 1, 2, 3, 4] rfl)
          · skip
            have hG := hG.trans (if_neg c_6123)
            have gc_6123 := ti_nlt c_6123 rfl rfl
            refine lv_lload_n hx hb dX6_odds_64 rfl (lv_at hl 1 rfl) ?_
            refine lv_aload_n hx hb dX6_odds_65 rfl (lv_at hl 2 rfl) ?_
            refine va_get (D := (dC, dI)) (ci := 6) (v := .ref oC) (C := RX6) (T := TX6) (N := 12) hx hb hts inX6 hown hK hP 0 rfl rfl 1 (by decide) (hts _ wd_20) (fun _ h9 => h9) rfl dX6_odds_66 ?_
            refine lv_iload hx hb dX6_odds_69 (lv_at hl 0 rfl) ?_
            have hMs := ml_of hD [false, false, false, false, false, true, false, false, false, false, false, false, false, false] (wc := [(oc1 oC iC_nodes iC_words iC_chances iC_unsures iC_slips iC_throneNode iC_saidWorth iC_unit rC_kind rC_parts rC_partNodes rC_weights rC_weightSums rC_toldWorths rC_steps rC_below rC_above rC_unsureWords rC_unsureWorths)]) rfl
            have hFc := va_freeM hD hS hA _ hMs
            refine va_calll (va_runV (As := [.int z_6110]) (rest := [.long z_6111]) ⟨hx, hb, hml, hown, hts⟩ (tX1_likelihood l dC dI _ oC iC_nodes iC_words iC_chances iC_unsures iC_slips iC_throneNode iC_saidWorth iC_unit rC_kind rC_parts rC_partNodes rC_weights rC_weightSums rC_toldWorths rC_steps rC_below rC_above rC_unsureWords rC_unsureWorths z_6110 b_iC_nodes b_iC_unsures b_iC_throneNode) (cwV 1 hts (wd_V wd_1258 wd_1259 wd_1260 wd_19 (wd_c wd_1261)) rfl rfl rfl dv_yX1_likelihood_1 ⟨Nat.le_of_ble_eq_true rfl, Nat.le_of_ble_eq_true rfl⟩) ⟨Pw.fb, recvX1 hK hP (q0 := 5) rfl, fun U hU hW => Pw.to (hP.ms _ hMs) (hD.ms _ hMs) (hK.ms [false, false, false, false, false, false, false, false, false, false] rfl) hE hS hFc hU hW⟩ rfl rfl hl.1 rfl (lv_room (Nat.le_of_ble_eq_true rfl)) dX6_odds_71 ⟨Nat.le_of_ble_eq_true rfl, Nat.le_of_ble_eq_true rfl⟩) hS (fun q _ h => hFc q h) hFc (fun r u t H locs ht hvm hw hB hz1 hk1 hS => ?_)
            have hru9 := hw.2
            have hw := hw.1
            obtain ⟨hP, hD⟩ := Bw.goN (ws' := [(oc6 oK oR oC oS oT rK_images iK_imageCount oA oH oL x_6106 iK_latestFault iK_latestPlace), (oc5 oS rS_worths rS_order rS_left), (oc4 oL rL_values rL_supposed), (arI rL_values kL_values 18 f_6119), (arI rL_supposed kL_supposed 18 f_6120), (oc1 oC iC_nodes iC_words iC_chances iC_unsures iC_slips iC_throneNode iC_saidWorth iC_unit rC_kind rC_parts rC_partNodes rC_weights rC_weightSums rC_toldWorths rC_steps rC_below rC_above rC_unsureWords rC_unsureWorths), (arI rC_kind kC_kind 18 fC_kind), (arI rC_parts kC_parts 18 fC_parts), (arI rC_partNodes kC_partNodes 72 fC_partNodes), (arI rC_weights kC_weights 72 fC_weights), (arI rC_weightSums kC_weightSums 18 fC_weightSums), (arI rC_unsureWords kC_unsureWords 4 fC_unsureWords), (arI rC_unsureWorths kC_unsureWorths 4 fC_unsureWorths), (arI rS_worths kS_worths 18 fS_worths)]) hB rfl ht hP hD _ hMs hk1 hFc rfl
            clear hz1 hk1 hvm ht hB hMs
            obtain ⟨y_6125, rfl⟩ : ∃ z, z = r := ⟨_, rfl⟩
            have hG := hG.trans (lt_eq hru9.symm)
            refine lv_ladd hx hb dX6_odds_74 ?_
            refine lv_topl (fun y_6126 ey_6126 => ?_)
            have hG := hG.trans (lt_eq ey_6126)
            refine lv_lstore_n (lv' := [(3, .long y_6126), (5, .int z_6110), (0, .ref oK), (1, .int p0), (2, .int p1)]) hx hb dX6_odds_75 rfl hl (by decide) rfl (fun ls hl => ?_)
            obtain ⟨x_6127, ex_6127⟩ : ∃ z : Int32, z = z_6110 + Int32.ofInt 1 := ⟨_, rfl⟩
            have hG := hG.trans (lt_eq ex_6127)
            have vx_6127 : x_6127.toInt = z_6110.toInt + 1 := ti_add (y := 1) ex_6127 rfl kc_1 (om_4e4fce7e hi0_n_6114.1) (om_26fca3fc ux_6115.2 gc_6116)
            refine lv_iinc (v := x_6127) (lv' := [(5, .int x_6127), (3, .long y_6126), (0, .ref oK), (1, .int p0), (2, .int p1)]) hx hb dX6_odds_76 hl (k := 1) rfl ex_6127.symm (by decide) rfl (fun ls hl => ?_)
            refine lv_goto (tgt := 20) hx hb dX6_odds_79 (by decide) ?_
            exact ih_n_6114 x_6127 y_6126 f_6119 f_6120 _ _ _  ⟨(om_83b90de5 hi0_n_6114.1 vx_6127), (om_4b156bce ux_6115.2 gc_6116 vx_6127)⟩ (ms_lt hm_n_6114 (om_b9393183 vx_6127) (om_33376cd8 ux_6115.2 gc_6116)) hG (hP.sub [0, 5, 6, 7, 8, 9, 10, 11, 12, 1, 13, 2, 3, 4] rfl) (hD.sub [0, 5, 6, 7, 8, 9, 10, 11, 12, 1, 13, 2, 3, 4] (by decide) rfl) hS (lv_sub hl [0, 1, 2, 3, 4] rfl)
    exact key_n_6114 (((2147483647 - (0 : Int32).toInt).toNat) + 1) 0 0 fL_values fL_supposed _ _ _  ⟨(om_b1de7dbe kc_0), (om_daf17c64 kc_0)⟩ (Nat.lt_add_one _) hG hP hD hS hl
  · skip
    have hG := hG.trans (un2_eq e_x_6106_0)
    have hG := hG.trans (if_neg (by decide))
    refine lv_if_eq (tgt := 15) hx hb dX6_odds_8 (by decide) (fun c => absurd c (by decide)) (fun _ => ?_)
    refine lv_ldc2 hx hb hown (hts _ wd_608) dX6_odds_11 ?_
    exact wq_l hx hb hr (cL (-1)) ⟨⟨trivial, trivial⟩, (cL_of (-1))⟩ (fun t ht hW => ⟨x_6106, fL_values, fL_supposed, (cL_tup hG), Bw.to hP hD hK ht hW⟩) hS dX6_odds_14 hlocks
set_option maxHeartbeats 4000000 in
set_option maxRecDepth 100000 in
theorem tX6_mean (l : Launch) (dC : Nat → ClassId) (dI : Nat → Nat → Nat) (sz : Nat) (oK : Nat) (oR : Nat) (oC : Nat) (oS : Nat) (oT : Nat) (rK_images : Nat) (iK_imageCount : Int32) (oA : Nat) (oH : Nat) (oL : Nat) (iK_refusal : Int32) (iK_latestFault : Int32) (iK_latestPlace : Int32) (iC_nodes : Int32) (iC_words : Int32) (iC_chances : Int32) (iC_unsures : Int32) (iC_slips : Int32) (iC_throneNode : Int32) (iC_saidWorth : Int32) (iC_unit : Int32) (rC_kind : Nat) (fC_kind : Nat → Int32) (kC_kind : ClassId) (rC_parts : Nat) (fC_parts : Nat → Int32) (kC_parts : ClassId) (rC_partNodes : Nat) (fC_partNodes : Nat → Int32) (kC_partNodes : ClassId) (rC_weights : Nat) (fC_weights : Nat → Int32) (kC_weights : ClassId) (rC_weightSums : Nat) (fC_weightSums : Nat → Int32) (kC_weightSums : ClassId) (rC_toldWorths : Nat) (rC_steps : Nat) (rC_below : Nat) (rC_above : Nat) (rC_unsureWords : Nat) (fC_unsureWords : Nat → Int32) (kC_unsureWords : ClassId) (rC_unsureWorths : Nat) (fC_unsureWorths : Nat → Int32) (kC_unsureWorths : ClassId) (rS_worths : Nat) (fS_worths : Nat → Int32) (kS_worths : ClassId) (rS_order : Nat) (rS_left : Nat) (rL_values : Nat) (fL_values : Nat → Int32) (kL_values : ClassId) (rL_supposed : Nat) (fL_supposed : Nat → Int32) (kL_supposed : ClassId) (p0 : Int32) (b_iK_imageCount : 0 ≤ iK_imageCount.toInt ∧ iK_imageCount.toInt ≤ 3) (b_iC_nodes : 0 ≤ iC_nodes.toInt ∧ iC_nodes.toInt ≤ 18) (b_iC_unsures : 0 ≤ iC_unsures.toInt ∧ iC_unsures.toInt ≤ 4) (b_iC_throneNode : (-1) ≤ iC_throneNode.toInt ∧ iC_throneNode.toInt ≤ 17) (a_fC_parts : ∀ j : Nat, j < 18 → 0 ≤ (fC_parts j).toInt ∧ (fC_parts j).toInt ≤ 4) (a_fC_partNodes : ∀ j : Nat, j < 72 → 0 ≤ (fC_partNodes j).toInt ∧ (fC_partNodes j).toInt ≤ 17) (a_fC_unsureWords : ∀ j : Nat, j < 4 → 0 ≤ (fC_unsureWords j).toInt ∧ (fC_unsureWords j).toInt ≤ 17)  : Met l yX6_mean (Cond.code yX6_mean cX6_mean 5 (some .long) :: wG) ({ frames := 4, cells := 0, slots := 0, locals := 95 }) (va_Pc [.ref oK, .int p0] (Pw dC dI sz [(oc6 oK oR oC oS oT rK_images iK_imageCount oA oH oL iK_refusal iK_latestFault iK_latestPlace), (oc1 oC iC_nodes iC_words iC_chances iC_unsures iC_slips iC_throneNode iC_saidWorth iC_unit rC_kind rC_parts rC_partNodes rC_weights rC_weightSums rC_toldWorths rC_steps rC_below rC_above rC_unsureWords rC_unsureWorths), (arI rC_kind kC_kind 18 fC_kind), (arI rC_parts kC_parts 18 fC_parts), (arI rC_partNodes kC_partNodes 72 fC_partNodes), (arI rC_weights kC_weights 72 fC_weights), (arI rC_weightSums kC_weightSums 18 fC_weightSums), (arI rC_unsureWords kC_unsureWords 4 fC_unsureWords), (arI rC_unsureWorths kC_unsureWorths 4 fC_unsureWorths), (oc5 oS rS_worths rS_order rS_left), (arI rS_worths kS_worths 18 fS_worths), (oc4 oL rL_values rL_supposed), (arI rL_values kL_values 18 fL_values), (arI rL_supposed kL_supposed 18 fL_supposed)] [(kC_kind, .int), (kC_parts, .int), (kC_partNodes, .int), (kC_weights, .int), (kC_weightSums, .int), (kC_unsureWords, .int), (kC_unsureWorths, .int), (kS_worths, .int), (kL_values, .int), (kL_supposed, .int)])) (va_Ql (fun (r : Int64) (u : Nat) => (True ∧ True) ∧ r = Int64.ofNat u) (fun (u : Nat) (t : State) => ∃ (niK_refusal : Int32) (nfL_values : Nat → Int32) (nfL_supposed : Nat → Int32), (PX6_mean iC_nodes iC_unsures iC_slips iC_throneNode iC_unit fC_kind fC_parts fC_partNodes fC_weights fC_weightSums fC_unsureWords fC_unsureWorths fS_worths fL_values fL_supposed p0 = (Int64.ofNat u, niK_refusal, nfL_values, nfL_supposed)) ∧ Bw dC dI (va_A [(oc6 oK oR oC oS oT rK_images iK_imageCount oA oH oL iK_refusal iK_latestFault iK_latestPlace), (oc1 oC iC_nodes iC_words iC_chances iC_unsures iC_slips iC_throneNode iC_saidWorth iC_unit rC_kind rC_parts rC_partNodes rC_weights rC_weightSums rC_toldWorths rC_steps rC_below rC_above rC_unsureWords rC_unsureWorths), (arI rC_kind kC_kind 18 fC_kind), (arI rC_parts kC_parts 18 fC_parts), (arI rC_partNodes kC_partNodes 72 fC_partNodes), (arI rC_weights kC_weights 72 fC_weights), (arI rC_weightSums kC_weightSums 18 fC_weightSums), (arI rC_unsureWords kC_unsureWords 4 fC_unsureWords), (arI rC_unsureWorths kC_unsureWorths 4 fC_unsureWorths), (oc5 oS rS_worths rS_order rS_left), (arI rS_worths kS_worths 18 fS_worths), (oc4 oL rL_values rL_supposed), (arI rL_values kL_values 18 fL_values), (arI rL_supposed kL_supposed 18 fL_supposed)] sz) [(oc6 oK oR oC oS oT rK_images iK_imageCount oA oH oL niK_refusal iK_latestFault iK_latestPlace), (oc1 oC iC_nodes iC_words iC_chances iC_unsures iC_slips iC_throneNode iC_saidWorth iC_unit rC_kind rC_parts rC_partNodes rC_weights rC_weightSums rC_toldWorths rC_steps rC_below rC_above rC_unsureWords rC_unsureWorths), (arI rC_kind kC_kind 18 fC_kind), (arI rC_parts kC_parts 18 fC_parts), (arI rC_partNodes kC_partNodes 72 fC_partNodes), (arI rC_weights kC_weights 72 fC_weights), (arI rC_weightSums kC_weightSums 18 fC_weightSums), (arI rC_unsureWords kC_unsureWords 4 fC_unsureWords), (arI rC_unsureWorths kC_unsureWorths 4 fC_unsureWorths), (oc5 oS rS_worths rS_order rS_left), (arI rS_worths kS_worths 18 fS_worths), (oc4 oL rL_values rL_supposed), (arI rL_values kL_values 18 nfL_values), (arI rL_supposed kL_supposed 18 nfL_supposed)] [(kC_kind, .int), (kC_parts, .int), (kC_partNodes, .int), (kC_weights, .int), (kC_weightSums, .int), (kC_unsureWords, .int), (kC_unsureWorths, .int), (kS_worths, .int), (kL_values, .int), (kL_supposed, .int)] t) (va_A [(oc6 oK oR oC oS oT rK_images iK_imageCount oA oH oL iK_refusal iK_latestFault iK_latestPlace), (oc1 oC iC_nodes iC_words iC_chances iC_unsures iC_slips iC_throneNode iC_saidWorth iC_unit rC_kind rC_parts rC_partNodes rC_weights rC_weightSums rC_toldWorths rC_steps rC_below rC_above rC_unsureWords rC_unsureWorths), (arI rC_kind kC_kind 18 fC_kind), (arI rC_parts kC_parts 18 fC_parts), (arI rC_partNodes kC_partNodes 72 fC_partNodes), (arI rC_weights kC_weights 72 fC_weights), (arI rC_weightSums kC_weightSums 18 fC_weightSums), (arI rC_unsureWords kC_unsureWords 4 fC_unsureWords), (arI rC_unsureWorths kC_unsureWorths 4 fC_unsureWorths), (oc5 oS rS_worths rS_order rS_left), (arI rS_worths kS_worths 18 fS_worths), (oc4 oL rL_values rL_supposed), (arI rL_values kL_values 18 fL_values), (arI rL_supposed kL_supposed 18 fL_supposed)] sz)) 0 0 (va_A [(oc6 oK oR oC oS oT rK_images iK_imageCount oA oH oL iK_refusal iK_latestFault iK_latestPlace), (oc1 oC iC_nodes iC_words iC_chances iC_unsures iC_slips iC_throneNode iC_saidWorth iC_unit rC_kind rC_parts rC_partNodes rC_weights rC_weightSums rC_toldWorths rC_steps rC_below rC_above rC_unsureWords rC_unsureWorths), (arI rC_kind kC_kind 18 fC_kind), (arI rC_parts kC_parts 18 fC_parts), (arI rC_partNodes kC_partNodes 72 fC_partNodes), (arI rC_weights kC_weights 72 fC_weights), (arI rC_weightSums kC_weightSums 18 fC_weightSums), (arI rC_unsureWords kC_unsureWords 4 fC_unsureWords), (arI rC_unsureWorths kC_unsureWorths 4 fC_unsureWorths), (oc5 oS rS_worths rS_order rS_left), (arI rS_worths kS_worths 18 fS_worths), (oc4 oL rL_values rL_supposed), (arI rL_values kL_values 18 fL_values), (arI rL_supposed kL_supposed 18 fL_supposed)] sz) := by
  refine Met.ofW (cc := cX6_mean) (maxL := 5) (ret := (some .long)) pnX6 rfl ?_
  intro p e s m args below meth c s₁ B hml hv
  obtain ⟨rfl, hsz, hP, hK, hD0, hE⟩ := hv
  have hx := B.exec
  have hb := B.bytes
  have hr := B.returns
  have hts : ∀ w ∈ wG, w.before ([.ref oK, .int p0] : List Value).toArray s = true := fun w h => atoms_spec (ws := Cond.code yX6_mean cX6_mean 5 (some .long) :: wG) B.pre w (List.mem_cons_of_mem _ h)
  have hown : s.vm.findClass RX6 = some m.cls := own_of B.named rfl
  have hlocks := B.notSynchronized
  subst hsz
  have hD := hD0.self (sz := s.heap.size)
  generalize hAe : va_A [(oc6 oK oR oC oS oT rK_images iK_imageCount oA oH oL iK_refusal iK_latestFault iK_latestPlace), (oc1 oC iC_nodes iC_words iC_chances iC_unsures iC_slips iC_throneNode iC_saidWorth iC_unit rC_kind rC_parts rC_partNodes rC_weights rC_weightSums rC_toldWorths rC_steps rC_below rC_above rC_unsureWords rC_unsureWorths), (arI rC_kind kC_kind 18 fC_kind), (arI rC_parts kC_parts 18 fC_parts), (arI rC_partNodes kC_partNodes 72 fC_partNodes), (arI rC_weights kC_weights 72 fC_weights), (arI rC_weightSums kC_weightSums 18 fC_weightSums), (arI rC_unsureWords kC_unsureWords 4 fC_unsureWords), (arI rC_unsureWorths kC_unsureWorths 4 fC_unsureWorths), (oc5 oS rS_worths rS_order rS_left), (arI rS_worths kS_worths 18 fS_worths), (oc4 oL rL_values rL_supposed), (arI rL_values kL_values 18 fL_values), (arI rL_supposed kL_supposed 18 fL_supposed)] s.heap.size = A at hD hE ⊢
  have hA : ∀ q : Nat, s.heap.size ≤ q → A q := fun q h => by rw [← hAe]; exact Or.inr h
  have hS : va_S A s.heap s.heap [] := va_S.rf
  have hl := lv_entry ([.ref oK, .int p0]) (n := 5) (Nat.le_of_ble_eq_true rfl)
  rw [lg_entry_eq]
  generalize (lg_sl ([.ref oK, .int p0]) ++ List.replicate (5 - (lg_sl ([.ref oK, .int p0])).length) Slot.unset).toArray = ls at hl ⊢
  have hl : lv_has ls 5 [(0, .ref oK), (1, .int p0)] := hl
  have hG := PX6_mean_eq iC_nodes iC_unsures iC_slips iC_throneNode iC_unit fC_kind fC_parts fC_partNodes fC_weights fC_weightSums fC_unsureWords fC_unsureWorths fS_worths fL_values fL_supposed p0
  have rg_p0 := fb_rng p0
  refine lv_aload_n hx hb dX6_mean_0 rfl (lv_at hl 0 rfl) ?_
  have hMs := ml_of hD [true, true, false, false, false, false, false, false, false, false, false, false, false, false] (wc := [(oc6 oK oR oC oS oT rK_images iK_imageCount oA oH oL iK_refusal iK_latestFault iK_latestPlace), (oc1 oC iC_nodes iC_words iC_chances iC_unsures iC_slips iC_throneNode iC_saidWorth iC_unit rC_kind rC_parts rC_partNodes rC_weights rC_weightSums rC_toldWorths rC_steps rC_below rC_above rC_unsureWords rC_unsureWorths)]) rfl
  have hFc := va_freeM hD hS hA _ hMs
  refine va_calli (va_runV (As := []) (rest := []) ⟨hx, hb, hml, hown, hts⟩ (tX6_lacksCourt l dC dI _ oK oR oC oS oT rK_images iK_imageCount oA oH oL iK_refusal iK_latestFault iK_latestPlace iC_nodes iC_words iC_chances iC_unsures iC_slips iC_throneNode iC_saidWorth iC_unit rC_kind rC_parts rC_partNodes rC_weights rC_weightSums rC_toldWorths rC_steps rC_below rC_above rC_unsureWords rC_unsureWorths b_iK_imageCount b_iC_nodes b_iC_unsures b_iC_throneNode) (cwV 0 hts (wd_V wd_596 wd_597 wd_598 wd_2 (wd_c wd_599)) rfl rfl rfl dv_yX6_lacksCourt_0 ⟨Nat.le_of_ble_eq_true rfl, Nat.le_of_ble_eq_true rfl⟩) ⟨Pw.fb, recvX6 hK hP (q0 := 0) rfl, fun U hU hW => Pw.to (hP.ms _ hMs) (hD.ms _ hMs) (hK.ms [false, false, false, false, false, false, false, false, false, false] rfl) hE hS hFc hU hW⟩ rfl rfl hl.1 rfl (lv_room (Nat.le_of_ble_eq_true rfl)) dX6_mean_1 ⟨Nat.le_of_ble_eq_true rfl, Nat.le_of_ble_eq_true rfl⟩) hS (fun q _ h => hFc q h) hFc (fun r u t H locs ht hvm hw hB hz1 hk1 hS => ?_)
  have hru9 := hw.2
  have hw := hw.1
  refine ex_1_2 hB (fun x_6171 b_x_6171 e_x_6171_0 hB => ?_)
  obtain ⟨hP, hD⟩ := Bw.goN (ws' := [(oc6 oK oR oC oS oT rK_images iK_imageCount oA oH oL x_6171 iK_latestFault iK_latestPlace), (oc1 oC iC_nodes iC_words iC_chances iC_unsures iC_slips iC_throneNode iC_saidWorth iC_unit rC_kind rC_parts rC_partNodes rC_weights rC_weightSums rC_toldWorths rC_steps rC_below rC_above rC_unsureWords rC_unsureWorths), (arI rC_kind kC_kind 18 fC_kind), (arI rC_parts kC_parts 18 fC_parts), (arI rC_partNodes kC_partNodes 72 fC_partNodes), (arI rC_weights kC_weights 72 fC_weights), (arI rC_weightSums kC_weightSums 18 fC_weightSums), (arI rC_unsureWords kC_unsureWords 4 fC_unsureWords), (arI rC_unsureWorths kC_unsureWorths 4 fC_unsureWorths), (oc5 oS rS_worths rS_order rS_left), (arI rS_worths kS_worths 18 fS_worths), (oc4 oL rL_values rL_supposed), (arI rL_values kL_values 18 fL_values), (arI rL_supposed kL_supposed 18 fL_supposed)]) hB rfl ht hP hD _ hMs hk1 hFc rfl
  clear hz1 hk1 hvm ht hB hMs
  have rg_x_6171 := fb_rng x_6171
  rw [← hru9] at e_x_6171_0
  rcases hw.2 with ⟨rfl, hc_6172⟩ | ⟨rfl, hc_6172⟩
  · skip
    have rg_iC_nodes := fb_rng iC_nodes
    have hG := hG.trans (un2_eq e_x_6171_0)
    have hG := hG.trans (if_pos rfl)
    refine lv_if_eq (tgt := 11) hx hb dX6_mean_4 (by decide) (fun _ => ?_) (fun c => absurd c (by decide))
    refine lv_lconst (v := 0) hx hb dX6_mean_11 (by decide) ?_
    refine lv_lstore_n (lv' := [(2, .long 0), (0, .ref oK), (1, .int p0)]) hx hb dX6_mean_12 rfl hl (by decide) rfl (fun ls hl => ?_)
    refine lv_iconst (v := 0) hx hb dX6_mean_13 (by decide) ?_
    refine lv_istore (lv' := [(4, .int 0), (2, .long 0), (0, .ref oK), (1, .int p0)]) hx hb dX6_mean_14 hl (by decide) rfl (fun ls hl => ?_)
    have hl := lv_sub hl (l' := [(4, .int 0), (2, .long 0), (0, .ref oK), (1, .int p0)]) [0, 1, 2, 3] rfl
    have key_n_6179 : ∀ (n_6179 : Nat) (z_6175 : Int32) (z_6176 : Int64) (f_6177 : Nat → Int32) (f_6178 : Nat → Int32) (H : Heap) (locs : List Loc) (ls : Array Slot), (0 ≤ z_6175.toInt ∧ z_6175.toInt ≤ 2147483647) → (2147483647 - z_6175.toInt).toNat < n_6179 → (PX6_mean iC_nodes iC_unsures iC_slips iC_throneNode iC_unit fC_kind fC_parts fC_partNodes fC_weights fC_weightSums fC_unsureWords fC_unsureWorths fS_worths fL_values fL_supposed p0 = HX6_mean_0 iC_nodes iC_unsures iC_slips iC_throneNode iC_unit fC_kind fC_parts fC_partNodes fC_weights fC_weightSums fC_unsureWords fC_unsureWorths fS_worths p0 x_6171 n_6179 z_6175 z_6176 f_6177 f_6178) → va_P (dC, dI) vwCl [(oc6 oK oR oC oS oT rK_images iK_imageCount oA oH oL x_6171 iK_latestFault iK_latestPlace), (oc1 oC iC_nodes iC_words iC_chances iC_unsures iC_slips iC_throneNode iC_saidWorth iC_unit rC_kind rC_parts rC_partNodes rC_weights rC_weightSums rC_toldWorths rC_steps rC_below rC_above rC_unsureWords rC_unsureWorths), (arI rC_kind kC_kind 18 fC_kind), (arI rC_parts kC_parts 18 fC_parts), (arI rC_partNodes kC_partNodes 72 fC_partNodes), (arI rC_weights kC_weights 72 fC_weights), (arI rC_weightSums kC_weightSums 18 fC_weightSums), (arI rC_unsureWords kC_unsureWords 4 fC_unsureWords), (arI rC_unsureWorths kC_unsureWorths 4 fC_unsureWorths), (oc5 oS rS_worths rS_order rS_left), (arI rS_worths kS_worths 18 fS_worths), (oc4 oL rL_values rL_supposed), (arI rL_values kL_values 18 f_6177), (arI rL_supposed kL_supposed 18 f_6178)] H → va_D A [(oc6 oK oR oC oS oT rK_images iK_imageCount oA oH oL x_6171 iK_latestFault iK_latestPlace), (oc1 oC iC_nodes iC_words iC_chances iC_unsures iC_slips iC_throneNode iC_saidWorth iC_unit rC_kind rC_parts rC_partNodes rC_weights rC_weightSums rC_toldWorths rC_steps rC_below rC_above rC_unsureWords rC_unsureWorths), (arI rC_kind kC_kind 18 fC_kind), (arI rC_parts kC_parts 18 fC_parts), (arI rC_partNodes kC_partNodes 72 fC_partNodes), (arI rC_weights kC_weights 72 fC_weights), (arI rC_weightSums kC_weightSums 18 fC_weightSums), (arI rC_unsureWords kC_unsureWords 4 fC_unsureWords), (arI rC_unsureWorths kC_unsureWorths 4 fC_unsureWorths), (oc5 oS rS_worths rS_order rS_left), (arI rS_worths kS_worths 18 fS_worths), (oc4 oL rL_values rL_supposed), (arI rL_values kL_values 18 f_6177), (arI rL_supposed kL_supposed 18 f_6178)] → va_S A s.heap H locs → lv_has ls 5 [(4, .int z_6175), (2, .long z_6176), (0, .ref oK), (1, .int p0)] → W p l e (headSpec (Cond.code yX6_mean cX6_mean 5 (some .long) :: wG) ({ frames := 4, cells := 0, slots := 0, locals := 95 })).room s m ([.ref oK, .int p0] : List Value).toArray below meth c H locs 0 0 (MQ below (va_Ql (fun (r : Int64) (u : Nat) => (True ∧ True) ∧ r = Int64.ofNat u) (fun (u : Nat) (t : State) => ∃ (niK_refusal : Int32) (nfL_values : Nat → Int32) (nfL_supposed : Nat → Int32), (PX6_mean iC_nodes iC_unsures iC_slips iC_throneNode iC_unit fC_kind fC_parts fC_partNodes fC_weights fC_weightSums fC_unsureWords fC_unsureWorths fS_worths fL_values fL_supposed p0 = (Int64.ofNat u, niK_refusal, nfL_values, nfL_supposed)) ∧ Bw dC dI A [(oc6 oK oR oC oS oT rK_images iK_imageCount oA oH oL niK_refusal iK_latestFault iK_latestPlace), (oc1 oC iC_nodes iC_words iC_chances iC_unsures iC_slips iC_throneNode iC_saidWorth iC_unit rC_kind rC_parts rC_partNodes rC_weights rC_weightSums rC_toldWorths rC_steps rC_below rC_above rC_unsureWords rC_unsureWorths), (arI rC_kind kC_kind 18 fC_kind), (arI rC_parts kC_parts 18 fC_parts), (arI rC_partNodes kC_partNodes 72 fC_partNodes), (arI rC_weights kC_weights 72 fC_weights), (arI rC_weightSums kC_weightSums 18 fC_weightSums), (arI rC_unsureWords kC_unsureWords 4 fC_unsureWords), (arI rC_unsureWorths kC_unsureWorths 4 fC_unsureWorths), (oc5 oS rS_worths rS_order rS_left), (arI rS_worths kS_worths 18 fS_worths), (oc4 oL rL_values rL_supposed), (arI rL_values kL_values 18 nfL_values), (arI rL_supposed kL_supposed 18 nfL_supposed)] [(kC_kind, .int), (kC_parts, .int), (kC_partNodes, .int), (kC_weights, .int), (kC_weightSums, .int), (kC_unsureWords, .int), (kC_unsureWorths, .int), (kS_worths, .int), (kL_values, .int), (kL_supposed, .int)] t) A) ([.ref oK, .int p0] : List Value).toArray s 0 0 A) (F0 m 16 ls []) := by
      intro n_6179
      induction n_6179 with
      | zero => intro z_6175 z_6176 f_6177 f_6178 H locs ls hi0_n_6179 hm; exact absurd hm (Nat.not_lt_zero _)
      | succ n_6179 ih_n_6179 =>
        intro z_6175 z_6176 f_6177 f_6178 H locs ls hi0_n_6179 hm_n_6179 hG hP hD hS hl
        have hG := hG.trans (HX6_mean_0_eq _ _ _ _ _ _ _ _ _ _ _ _ _ _ _ _ _ _ _ _)
        have rg_z_6175 := fb_rng z_6175
        refine lv_iload hx hb dX6_mean_16 (lv_at hl 0 rfl) ?_
        refine lv_aload_n hx hb dX6_mean_18 rfl (lv_at hl 2 rfl) ?_
        refine va_get (D := (dC, dI)) (ci := 6) (v := .ref oC) (C := RX6) (T := TX6) (N := 12) hx hb hts inX6 hown hK hP 0 rfl rfl 1 (by decide) (hts _ wd_20) (fun _ h9 => h9) rfl dX6_mean_19 ?_
        have hMs := ml_of hD [false, true, false, false, false, false, false, false, false, false, false, false, false, false] (wc := [(oc1 oC iC_nodes iC_words iC_chances iC_unsures iC_slips iC_throneNode iC_saidWorth iC_unit rC_kind rC_parts rC_partNodes rC_weights rC_weightSums rC_toldWorths rC_steps rC_below rC_above rC_unsureWords rC_unsureWorths)]) rfl
        have hFc := va_freeM hD hS hA _ hMs
        refine va_calli (va_runV (As := []) (rest := [.int z_6175]) ⟨hx, hb, hml, hown, hts⟩ (tX1_unsureSets l dC dI _ oC iC_nodes iC_words iC_chances iC_unsures iC_slips iC_throneNode iC_saidWorth iC_unit rC_kind rC_parts rC_partNodes rC_weights rC_weightSums rC_toldWorths rC_steps rC_below rC_above rC_unsureWords rC_unsureWorths b_iC_nodes b_iC_unsures b_iC_throneNode) (cwV 0 hts (wd_V wd_1165 wd_1166 wd_1167 wd_19 (wd_c wd_1168)) rfl rfl rfl dv_yX1_unsureSets_0 ⟨Nat.le_of_ble_eq_true rfl, Nat.le_of_ble_eq_true rfl⟩) ⟨Pw.fb, recvX1 hK hP (q0 := 1) rfl, fun U hU hW => Pw.to (hP.ms _ hMs) (hD.ms _ hMs) (hK.ms [false, false, false, false, false, false, false, false, false, false] rfl) hE hS hFc hU hW⟩ rfl rfl hl.1 rfl (lv_room (Nat.le_of_ble_eq_true rfl)) dX6_mean_22 ⟨Nat.le_of_ble_eq_true rfl, Nat.le_of_ble_eq_true rfl⟩) hS (fun q _ h => hFc q h) hFc (fun r u t H locs ht hvm hw hB hz1 hk1 hS => ?_)
        have hru9 := hw.2
        have hw := hw.1
        obtain ⟨hP, hD⟩ := Bw.goN (ws' := [(oc6 oK oR oC oS oT rK_images iK_imageCount oA oH oL x_6171 iK_latestFault iK_latestPlace), (oc1 oC iC_nodes iC_words iC_chances iC_unsures iC_slips iC_throneNode iC_saidWorth iC_unit rC_kind rC_parts rC_partNodes rC_weights rC_weightSums rC_toldWorths rC_steps rC_below rC_above rC_unsureWords rC_unsureWorths), (arI rC_kind kC_kind 18 fC_kind), (arI rC_parts kC_parts 18 fC_parts), (arI rC_partNodes kC_partNodes 72 fC_partNodes), (arI rC_weights kC_weights 72 fC_weights), (arI rC_weightSums kC_weightSums 18 fC_weightSums), (arI rC_unsureWords kC_unsureWords 4 fC_unsureWords), (arI rC_unsureWorths kC_unsureWorths 4 fC_unsureWorths), (oc5 oS rS_worths rS_order rS_left), (arI rS_worths kS_worths 18 fS_worths), (oc4 oL rL_values rL_supposed), (arI rL_values kL_values 18 f_6177), (arI rL_supposed kL_supposed 18 f_6178)]) hB rfl ht hP hD _ hMs hk1 hFc rfl
        clear hz1 hk1 hvm ht hB hMs
        obtain ⟨x_6180, rfl⟩ : ∃ z, z = r := ⟨_, rfl⟩
        have hG := hG.trans (lt_eq hru9.symm)
        have rg_x_6180 := fb_rng x_6180
        have ux_6180 := hw.2
        refine lv_icmp_ge (tgt := 68) hx hb dX6_mean_25 (by decide) (fun c_6181 => ?_) (fun c_6181 => ?_)
        · skip
          have hG := hG.trans (if_pos c_6181)
          have gc_6181 := ti_le c_6181 rfl rfl
          refine lv_lload_n hx hb dX6_mean_68 rfl (lv_at hl 1 rfl) ?_
          refine lv_aload_n hx hb dX6_mean_69 rfl (lv_at hl 2 rfl) ?_
          refine va_get (D := (dC, dI)) (ci := 6) (v := .ref oC) (C := RX6) (T := TX6) (N := 12) hx hb hts inX6 hown hK hP 0 rfl rfl 1 (by decide) (hts _ wd_20) (fun _ h9 => h9) rfl dX6_mean_70 ?_
          have hMs := ml_of hD [false, true, false, false, false, false, false, false, false, false, false, false, false, false] (wc := [(oc1 oC iC_nodes iC_words iC_chances iC_unsures iC_slips iC_throneNode iC_saidWorth iC_unit rC_kind rC_parts rC_partNodes rC_weights rC_weightSums rC_toldWorths rC_steps rC_below rC_above rC_unsureWords rC_unsureWorths)]) rfl
          have hFc := va_freeM hD hS hA _ hMs
          refine va_calll (va_runV (As := []) (rest := [.long z_6176]) ⟨hx, hb, hml, hown, hts⟩ (tX1_allLikelihood l dC dI _ oC iC_nodes iC_words iC_chances iC_unsures iC_slips iC_throneNode iC_saidWorth iC_unit rC_kind rC_parts rC_partNodes rC_weights rC_weightSums rC_toldWorths rC_steps rC_below rC_above rC_unsureWords rC_unsureWorths b_iC_nodes b_iC_unsures b_iC_throneNode) (cwV 0 hts (wd_V wd_1262 wd_1263 wd_1264 wd_19 (wd_c wd_1265)) rfl rfl rfl dv_yX1_allLikelihood_0 ⟨Nat.le_of_ble_eq_true rfl, Nat.le_of_ble_eq_true rfl⟩) ⟨Pw.fb, recvX1 hK hP (q0 := 1) rfl, fun U hU hW => Pw.to (hP.ms _ hMs) (hD.ms _ hMs) (hK.ms [false, false, false, false, false, false, false, false, false, false] rfl) hE hS hFc hU hW⟩ rfl rfl hl.1 rfl (lv_room (Nat.le_of_ble_eq_true rfl)) dX6_mean_73 ⟨Nat.le_of_ble_eq_true rfl, Nat.le_of_ble_eq_true rfl⟩) hS (fun q _ h => hFc q h) hFc (fun r u t H locs ht hvm hw hB hz1 hk1 hS => ?_)
          have hru9 := hw.2
          have hw := hw.1
          obtain ⟨hP, hD⟩ := Bw.goN (ws' := [(oc6 oK oR oC oS oT rK_images iK_imageCount oA oH oL x_6171 iK_latestFault iK_latestPlace), (oc1 oC iC_nodes iC_words iC_chances iC_unsures iC_slips iC_throneNode iC_saidWorth iC_unit rC_kind rC_parts rC_partNodes rC_weights rC_weightSums rC_toldWorths rC_steps rC_below rC_above rC_unsureWords rC_unsureWorths), (arI rC_kind kC_kind 18 fC_kind), (arI rC_parts kC_parts 18 fC_parts), (arI rC_partNodes kC_partNodes 72 fC_partNodes), (arI rC_weights kC_weights 72 fC_weights), (arI rC_weightSums kC_weightSums 18 fC_weightSums), (arI rC_unsureWords kC_unsureWords 4 fC_unsureWords), (arI rC_unsureWorths kC_unsureWorths 4 fC_unsureWorths), (oc5 oS rS_worths rS_order rS_left), (arI rS_worths kS_worths 18 fS_worths), (oc4 oL rL_values rL_supposed), (arI rL_values kL_values 18 f_6177), (arI rL_supposed kL_supposed 18 f_6178)]) hB rfl ht hP hD _ hMs hk1 hFc rfl
          clear hz1 hk1 hvm ht hB hMs
          obtain ⟨y_6182, rfl⟩ : ∃ z, z = r := ⟨_, rfl⟩
          have hG := hG.trans (lt_eq hru9.symm)
          refine lv_aload_n hx hb dX6_mean_76 rfl (lv_at hl 2 rfl) ?_
          refine va_get (D := (dC, dI)) (ci := 6) (v := .ref oC) (C := RX6) (T := TX6) (N := 12) hx hb hts inX6 hown hK hP 0 rfl rfl 1 (by decide) (hts _ wd_20) (fun _ h9 => h9) rfl dX6_mean_77 ?_
          refine va_get (D := (dC, dI)) (ci := 1) (v := .int iC_unit) (C := RX1) (T := TX1) (N := 19) hx hb hts inX1 hown hK hP 1 rfl rfl 7 (by decide) (hts _ wd_611) (fun _ h9 => h9) rfl dX6_mean_80 ?_
          have rg_iC_unit := fb_rng iC_unit
          obtain ⟨y_6183, ey_6183⟩ : ∃ z : Int64, z = (iC_unit : Int32).toInt64 := ⟨_, rfl⟩
          have hG := hG.trans (lt_eq ey_6183)
          refine lv_i2l (v := y_6183) hx hb dX6_mean_83 ey_6183.symm ?_
          refine lv_lmul hx hb dX6_mean_84 ?_
          refine lv_topl (fun y_6184 ey_6184 => ?_)
          have hG := hG.trans (lt_eq ey_6184)
          refine lv_iload_n hx hb dX6_mean_85 rfl (lv_at hl 3 rfl) ?_
          have hFc : ∀ q, va_A [] _ q → A q := fun q h => hA q (Nat.le_trans hS.1 (va_nilA h))
          refine va_calll (va_runS (As := [.long z_6176, .long y_6184, .int p0]) (rest := []) ⟨hx, hb, hml, hown, hts⟩ (tX6_inLowestTerms l dC dI _ z_6176 y_6184 p0 ) (va_cwS 3 hts (wd_S wd_635 wd_636 wd_2 (wd_c wd_637)) rfl rfl rfl ds_yX6_inLowestTerms_3 ⟨Nat.le_of_ble_eq_true rfl, Nat.le_of_ble_eq_true rfl⟩) ⟨Pw.fb, fun U hU hW => Pn.to hK hE hS hA hU hW⟩ rfl rfl hl.1 rfl (lv_room (Nat.le_of_ble_eq_true rfl)) dX6_mean_86 ⟨Nat.le_of_ble_eq_true rfl, Nat.le_of_ble_eq_true rfl⟩) hS (fun q _ h => hFc q h) hFc (fun r u t H locs ht hvm hw hB hz1 hk1 hS => ?_)
          obtain ⟨hP, hD, hK⟩ := Bw.same ht hvm hP hD hK hk1 hFc
          clear hz1 hk1 hvm ht hB
          have hq9 := hw.2
          have hw := hw.1
          obtain ⟨y_6185, rfl⟩ : ∃ z, z = r := ⟨_, rfl⟩
          have hq_y_6185 := hq9
          have hG := hG.trans (lt_eq hq_y_6185.symm)
          exact wq_l hx hb hr (cL y_6185) ⟨⟨trivial, trivial⟩, (cL_of y_6185)⟩ (fun t ht hW => ⟨x_6171, f_6177, f_6178, (cL_tup hG), Bw.to hP hD hK ht hW⟩) hS dX6_mean_89 hlocks
        · skip
          have hG := hG.trans (if_neg c_6181)
          have gc_6181 := ti_nle c_6181 rfl rfl
          refine lv_lload_n hx hb dX6_mean_28 rfl (lv_at hl 1 rfl) ?_
          refine lv_aload_n hx hb dX6_mean_29 rfl (lv_at hl 2 rfl) ?_
          refine va_get (D := (dC, dI)) (ci := 6) (v := .ref oC) (C := RX6) (T := TX6) (N := 12) hx hb hts inX6 hown hK hP 0 rfl rfl 1 (by decide) (hts _ wd_20) (fun _ h9 => h9) rfl dX6_mean_30 ?_
          refine lv_iload hx hb dX6_mean_33 (lv_at hl 0 rfl) ?_
          have hMs := ml_of hD [false, true, false, false, false, false, false, false, false, false, false, false, false, false] (wc := [(oc1 oC iC_nodes iC_words iC_chances iC_unsures iC_slips iC_throneNode iC_saidWorth iC_unit rC_kind rC_parts rC_partNodes rC_weights rC_weightSums rC_toldWorths rC_steps rC_below rC_above rC_unsureWords rC_unsureWorths)]) rfl
          have hFc := va_freeM hD hS hA _ hMs
          refine va_calll (va_runV (As := [.int z_6175]) (rest := [.long z_6176]) ⟨hx, hb, hml, hown, hts⟩ (tX1_likelihood l dC dI _ oC iC_nodes iC_words iC_chances iC_unsures iC_slips iC_throneNode iC_saidWorth iC_unit rC_kind rC_parts rC_partNodes rC_weights rC_weightSums rC_toldWorths rC_steps rC_below rC_above rC_unsureWords rC_unsureWorths z_6175 b_iC_nodes b_iC_unsures b_iC_throneNode) (cwV 1 hts (wd_V wd_1258 wd_1259 wd_1260 wd_19 (wd_c wd_1261)) rfl rfl rfl dv_yX1_likelihood_1 ⟨Nat.le_of_ble_eq_true rfl, Nat.le_of_ble_eq_true rfl⟩) ⟨Pw.fb, recvX1 hK hP (q0 := 1) rfl, fun U hU hW => Pw.to (hP.ms _ hMs) (hD.ms _ hMs) (hK.ms [false, false, false, false, false, false, false, false, false, false] rfl) hE hS hFc hU hW⟩ rfl rfl hl.1 rfl (lv_room (Nat.le_of_ble_eq_true rfl)) dX6_mean_35 ⟨Nat.le_of_ble_eq_true rfl, Nat.le_of_ble_eq_true rfl⟩) hS (fun q _ h => hFc q h) hFc (fun r u t H locs ht hvm hw hB hz1 hk1 hS => ?_)
          have hru9 := hw.2
          have hw := hw.1
          obtain ⟨hP, hD⟩ := Bw.goN (ws' := [(oc6 oK oR oC oS oT rK_images iK_imageCount oA oH oL x_6171 iK_latestFault iK_latestPlace), (oc1 oC iC_nodes iC_words iC_chances iC_unsures iC_slips iC_throneNode iC_saidWorth iC_unit rC_kind rC_parts rC_partNodes rC_weights rC_weightSums rC_toldWorths rC_steps rC_below rC_above rC_unsureWords rC_unsureWorths), (arI rC_kind kC_kind 18 fC_kind), (arI rC_parts kC_parts 18 fC_parts), (arI rC_partNodes kC_partNodes 72 fC_partNodes), (arI rC_weights kC_weights 72 fC_weights), (arI rC_weightSums kC_weightSums 18 fC_weightSums), (arI rC_unsureWords kC_unsureWords 4 fC_unsureWords), (arI rC_unsureWorths kC_unsureWorths 4 fC_unsureWorths), (oc5 oS rS_worths rS_order rS_left), (arI rS_worths kS_worths 18 fS_worths), (oc4 oL rL_values rL_supposed), (arI rL_values kL_values 18 f_6177), (arI rL_supposed kL_supposed 18 f_6178)]) hB rfl ht hP hD _ hMs hk1 hFc rfl
          clear hz1 hk1 hvm ht hB hMs
          obtain ⟨y_6186, rfl⟩ : ∃ z, z = r := ⟨_, rfl⟩
          have hG := hG.trans (lt_eq hru9.symm)
          refine lv_aload_n hx hb dX6_mean_38 rfl (lv_at hl 2 rfl) ?_
          refine va_get (D := (dC, dI)) (ci := 6) (v := .ref oL) (C := RX6) (T := TX6) (N := 12) hx hb hts inX6 hown hK hP 0 rfl rfl 8 (by decide) (hts _ wd_38) (fun _ h9 => h9) rfl dX6_mean_39 ?_
          refine lv_aload_n hx hb dX6_mean_42 rfl (lv_at hl 2 rfl) ?_
          refine va_get (D := (dC, dI)) (ci := 6) (v := .ref oC) (C := RX6) (T := TX6) (N := 12) hx hb hts inX6 hown hK hP 0 rfl rfl 1 (by decide) (hts _ wd_20) (fun _ h9 => h9) rfl dX6_mean_43 ?_
          refine lv_aload_n hx hb dX6_mean_46 rfl (lv_at hl 2 rfl) ?_
          refine va_get (D := (dC, dI)) (ci := 6) (v := .ref oS) (C := RX6) (T := TX6) (N := 12) hx hb hts inX6 hown hK hP 0 rfl rfl 2 (by decide) (hts _ wd_24) (fun _ h9 => h9) rfl dX6_mean_47 ?_
          refine va_get (D := (dC, dI)) (ci := 5) (v := .ref rS_worths) (C := RX5) (T := TX5) (N := 3) hx hb hts inX5 hown hK hP 9 rfl rfl 0 (by decide) (hts _ wd_609) (fun _ h9 => h9) rfl dX6_mean_50 ?_
          refine lv_iload hx hb dX6_mean_53 (lv_at hl 0 rfl) ?_
          have hFc := va_free (wc := [(oc4 oL rL_values rL_supposed), (arI rL_values kL_values 18 f_6177), (arI rL_supposed kL_supposed 18 f_6178), (oc1 oC iC_nodes iC_words iC_chances iC_unsures iC_slips iC_throneNode iC_saidWorth iC_unit rC_kind rC_parts rC_partNodes rC_weights rC_weightSums rC_toldWorths rC_steps rC_below rC_above rC_unsureWords rC_unsureWorths), (arI rC_kind kC_kind 18 fC_kind), (arI rC_parts kC_parts 18 fC_parts), (arI rC_partNodes kC_partNodes 72 fC_partNodes), (arI rC_weights kC_weights 72 fC_weights), (arI rC_weightSums kC_weightSums 18 fC_weightSums), (arI rC_unsureWords kC_unsureWords 4 fC_unsureWords), (arI rC_unsureWorths kC_unsureWorths 4 fC_unsureWorths), (arI rS_worths kS_worths 18 fS_worths)]) hD hS hA [11, 12, 13, 1, 2, 3, 4, 5, 6, 7, 8, 10] rfl
          refine va_calli (va_runV (As := [.ref oC, .ref rS_worths, .int z_6175]) (rest := [.long y_6186, .long z_6176]) ⟨hx, hb, hml, hown, hts⟩ (tX4_throneByUnsure l dC dI _ oL rL_values f_6177 kL_values rL_supposed f_6178 kL_supposed oC iC_nodes iC_words iC_chances iC_unsures iC_slips iC_throneNode iC_saidWorth iC_unit rC_kind fC_kind kC_kind rC_parts fC_parts kC_parts rC_partNodes fC_partNodes kC_partNodes rC_weights fC_weights kC_weights rC_weightSums fC_weightSums kC_weightSums rC_toldWorths rC_steps rC_below rC_above rC_unsureWords fC_unsureWords kC_unsureWords rC_unsureWorths fC_unsureWorths kC_unsureWorths rS_worths fS_worths kS_worths z_6175 b_iC_nodes b_iC_unsures b_iC_throneNode a_fC_parts a_fC_partNodes a_fC_unsureWords) (cwV 3 hts (wd_V wd_1169 wd_1170 wd_1171 wd_37 (wd_c wd_1172)) rfl rfl rfl dv_yX4_throneByUnsure_3 ⟨Nat.le_of_ble_eq_true rfl, Nat.le_of_ble_eq_true rfl⟩) ⟨Pw.fb, recvX4 hK hP (q0 := 11) rfl, fun U hU hW => Pw.to (hP.sub [11, 12, 13, 1, 2, 3, 4, 5, 6, 7, 8, 10] rfl) (hD.sub [11, 12, 13, 1, 2, 3, 4, 5, 6, 7, 8, 10] (by decide) rfl) (hK.sub [8, 9, 0, 1, 2, 3, 4, 5, 6, 7] rfl) hE hS hFc hU hW⟩ rfl rfl hl.1 rfl (lv_room (Nat.le_of_ble_eq_true rfl)) dX6_mean_55 ⟨Nat.le_of_ble_eq_true rfl, Nat.le_of_ble_eq_true rfl⟩) hS (fun q _ h => hFc q h) hFc (fun r u t H locs ht hvm hw hB hz1 hk1 hS => ?_)
          have hru9 := hw.2
          have hw := hw.1
          refine ex_2_1 hB (fun f_6187 f_6188 e_f_6187_0 hB => ?_)
          obtain ⟨hP, hD, hK⟩ := Bw.go (ws' := [(oc6 oK oR oC oS oT rK_images iK_imageCount oA oH oL x_6171 iK_latestFault iK_latestPlace), (oc5 oS rS_worths rS_order rS_left), (oc4 oL rL_values rL_supposed), (arI rL_values kL_values 18 f_6187), (arI rL_supposed kL_supposed 18 f_6188), (oc1 oC iC_nodes iC_words iC_chances iC_unsures iC_slips iC_throneNode iC_saidWorth iC_unit rC_kind rC_parts rC_partNodes rC_weights rC_weightSums rC_toldWorths rC_steps rC_below rC_above rC_unsureWords rC_unsureWorths), (arI rC_kind kC_kind 18 fC_kind), (arI rC_parts kC_parts 18 fC_parts), (arI rC_partNodes kC_partNodes 72 fC_partNodes), (arI rC_weights kC_weights 72 fC_weights), (arI rC_weightSums kC_weightSums 18 fC_weightSums), (arI rC_unsureWords kC_unsureWords 4 fC_unsureWords), (arI rC_unsureWorths kC_unsureWorths 4 fC_unsureWorths), (arI rS_worths kS_worths 18 fS_worths)]) (tys' := [(kL_values, .int), (kL_supposed, .int), (kC_kind, .int), (kC_parts, .int), (kC_partNodes, .int), (kC_weights, .int), (kC_weightSums, .int), (kC_unsureWords, .int), (kC_unsureWorths, .int), (kS_worths, .int)]) hB rfl ht hvm hP hD hK [11, 12, 13, 1, 2, 3, 4, 5, 6, 7, 8, 10] [0, 9] rfl (by decide) (by decide) [] hk1 hFc rfl rfl rfl
          clear hz1 hk1 hvm ht hB
          rw [← hru9] at e_f_6187_0
          obtain ⟨x_6189, rfl⟩ : ∃ z, z = r := ⟨_, rfl⟩
          have hG := hG.trans (un3_eq e_f_6187_0)
          have rg_x_6189 := fb_rng x_6189
          obtain ⟨y_6190, ey_6190⟩ : ∃ z : Int64, z = (x_6189 : Int32).toInt64 := ⟨_, rfl⟩
          have hG := hG.trans (lt_eq ey_6190)
          refine lv_i2l (v := y_6190) hx hb dX6_mean_58 ey_6190.symm ?_
          refine lv_lmul hx hb dX6_mean_59 ?_
          refine lv_topl (fun y_6191 ey_6191 => ?_)
          have hG := hG.trans (lt_eq ey_6191)
          refine lv_ladd hx hb dX6_mean_60 ?_
          refine lv_topl (fun y_6192 ey_6192 => ?_)
          have hG := hG.trans (lt_eq ey_6192)
          refine lv_lstore_n (lv' := [(2, .long y_6192), (4, .int z_6175), (0, .ref oK), (1, .int p0)]) hx hb dX6_mean_61 rfl hl (by decide) rfl (fun ls hl => ?_)
          obtain ⟨x_6193, ex_6193⟩ : ∃ z : Int32, z = z_6175 + Int32.ofInt 1 := ⟨_, rfl⟩
          have hG := hG.trans (lt_eq ex_6193)
          have vx_6193 : x_6193.toInt = z_6175.toInt + 1 := ti_add (y := 1) ex_6193 rfl kc_1 (om_4e4fce7e hi0_n_6179.1) (om_26fca3fc ux_6180.2 gc_6181)
          refine lv_iinc (v := x_6193) (lv' := [(4, .int x_6193), (2, .long y_6192), (0, .ref oK), (1, .int p0)]) hx hb dX6_mean_62 hl (k := 1) rfl ex_6193.symm (by decide) rfl (fun ls hl => ?_)
          refine lv_goto (tgt := 16) hx hb dX6_mean_65 (by decide) ?_
          exact ih_n_6179 x_6193 y_6192 f_6187 f_6188 _ _ _  ⟨(om_83b90de5 hi0_n_6179.1 vx_6193), (om_4b156bce ux_6180.2 gc_6181 vx_6193)⟩ (ms_lt hm_n_6179 (om_b9393183 vx_6193) (om_33376cd8 ux_6180.2 gc_6181)) hG (hP.sub [0, 5, 6, 7, 8, 9, 10, 11, 12, 1, 13, 2, 3, 4] rfl) (hD.sub [0, 5, 6, 7, 8, 9, 10, 11, 12, 1, 13, 2, 3, 4] (by decide) rfl) hS (lv_sub hl [0, 1, 2, 3] rfl)
    exact key_n_6179 (((2147483647 - (0 : Int32).toInt).toNat) + 1) 0 0 fL_values fL_supposed _ _ _  ⟨(om_b1de7dbe kc_0), (om_daf17c64 kc_0)⟩ (Nat.lt_add_one _) hG hP hD hS hl
  · skip
    have hG := hG.trans (un2_eq e_x_6171_0)
    have hG := hG.trans (if_neg (by decide))
    refine lv_if_eq (tgt := 11) hx hb dX6_mean_4 (by decide) (fun c => absurd c (by decide)) (fun _ => ?_)
    refine lv_ldc2 hx hb hown (hts _ wd_608) dX6_mean_7 ?_
    exact wq_l hx hb hr (cL (-1)) ⟨⟨trivial, trivial⟩, (cL_of (-1))⟩ (fun t ht hW => ⟨x_6171, fL_values, fL_supposed, (cL_tup hG), Bw.to hP hD hK ht hW⟩) hS dX6_mean_10 hlocks
